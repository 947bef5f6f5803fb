/-! Walk -/
def zWl (D : zBk) (μ : zMem) : Prop := zBal D 78 μ ∧ (∀ x, x < 6 → μ 85 x = D 5 x) ∧ (∀ i, i < zN D → μ 89 i = (zord D i : Int)) ∧ μ 77 6 = (zN D : Int)
theorem zWl.row {D : zBk} {μ μ' : zMem} (h : zWl D μ) (he : ∀ q, 77 ≤ q → q ≤ 89 → q ≠ 87 → μ' q = μ q) : zWl D μ' :=
  ⟨h.1.row (fun q a b => he q (by omega) (by omega) (by omega)), by rw [he 85 (by decide) (by decide) (by decide)]; exact h.2.1, by rw [he 89 (by decide) (by decide) (by decide)]; exact h.2.2.1, by rw [he 77 (by decide) (by decide) (by decide)]; exact h.2.2.2⟩

set_option maxRecDepth 100000 in
set_option maxHeartbeats 4000000 in
theorem ct_X8_load {μ : zMem} {D : zBk} {K0 K1 : Option zBk} (hX : zRX D K0 K1 μ) (hOq : zOrd D)  : Cv kX8_load 8 150 zSX [zP 77, zP 1, zP 18] μ (fun μ' => zWl D μ' ∧ (∀ x, x < 6 → μ' 87 x = D 5 x) ∧ zSame 77 95 μ μ') := by
  refine Ct.of [some (zP 77), some (zP 1), some (zP 18), none] rfl (Nat.le_of_ble_eq_true rfl) (by decide +kernel) (fun Γ ad hO hR => ?_)
  have hNe := zN_eq hX.1
  have hNn := hOq.1
  refine zY.aload_n hO dX8_load_0 rfl ?_
  refine zY.getR zfl_X8_14 (by decide : 77 < 150) rfl rfl hO dX8_load_1 ?_
  refine zY.aload_n hO dX8_load_4 rfl ?_
  refine zY.callV1v (ct_X0_writeAll zbl_78 hX.1 hX.2.1) (by decide) zcal_X0_writeAll zml_X8_47 (by decide : 78 < 150) rfl rfl (Nat.le_of_ble_eq_true rfl) rfl ⟨Nat.zero_le _, Nat.zero_le _⟩ hO dX8_load_5 (fun μ1 hq1 => ?_)
  obtain ⟨fq, gq, hq1, hq2⟩ := hq1
  refine zY.aload_n hO dX8_load_8 rfl ?_
  refine zY.getR zfl_X8_23 (by decide : 77 < 150) rfl rfl hO dX8_load_9 ?_
  refine zY.aload_n hO dX8_load_12 rfl ?_
  refine zY.callV1v (ct_X7_load zst_83) (by decide) zcal_X7_load zml_X8_51 (by decide : 83 < 150) rfl rfl (Nat.le_of_ble_eq_true rfl) rfl ⟨Nat.zero_le _, Nat.zero_le _⟩ hO dX8_load_13 (fun μ2 hq3 => ?_)
  obtain ⟨f2q, g2q, hq3, hq4⟩ := hq3
  have hsm : zSame 77 95 μ μ2 := by rw [hq3, hq1]; exact (((zSame.rfl'.row (by decide) (by decide)).row (by decide) (by decide)).row (by decide) (by decide)).row (by decide) (by decide)
  have hp2 : zPad D μ2 := hsm.pad hX.2.2.1 (by decide)
  have h5q : ∀ x, x < 6 → μ1 5 x = D 5 x := fun x hx => by rw [hq1, zrow_ne (by decide), zrow_ne (by decide)]; exact (hX.2.1.2.1 x hx).2.1
  have hba : zBal D 78 μ2 := hq2.row (fun q h1 h2 => by rw [hq3, zrow_ne (by omega), zrow_ne (by omega)])
  refine zY.aload_n hO dX8_load_16 rfl ?_
  refine zY.aload_n hO dX8_load_17 rfl ?_
  refine zY.callV0iD (ct_X3_count) (by decide) zcal_X3_count zml_X8_54 (by decide : 18 < 150) rfl rfl (Nat.le_of_ble_eq_true rfl) rfl ⟨Nat.zero_le _, Nat.zero_le _⟩ hO dX8_load_18 ?_
  refine zY.as (b := (zN D : Int)) (hp2.2.trans hNe.1) ?_
  refine zY.bipush hO dX8_load_21 (by decide) ?_
  refine zY.mmin ⟨by omega, by omega⟩ ⟨by omega, by omega⟩ zmx_X8_59 (Nat.le_of_ble_eq_true rfl) (by decide) rfl ⟨Nat.zero_le _, Nat.zero_le _⟩ hO dX8_load_23 ?_
  refine zY.as (b := (zN D : Int)) (by omega) ?_
  refine zY.putI zfp_X8_43 (by decide : 77 < 150) rfl rfl hO dX8_load_26 ?_
  refine zY.iconst hO dX8_load_29 ?_
  refine zY.istore3 (zc1_P _) hO dX8_load_30 ?_
  have L31 : ∀ i : Nat, i ≤ zN D → ∀ hq : Nat → Int, (∀ j, j < i → hq j = (zord D j : Int)) → zY Γ (150, zSX, ad, 0, 0) 31 [some (zP 77), some (zP 1), some (zP 18), some (zI (i : Int))] [] (zrow (zwr μ2 77 6 (zN D : Int)) 89 hq) := by
    refine zdown (zN D) (fun i hi_i ih31 => ?_)
    intro hq hJ
    refine zY.iload_n hO dX8_load_31 rfl ?_
    refine zY.aload_n hO dX8_load_32 rfl ?_
    refine zY.getI zfl_X8_43 (by decide : 77 < 150) rfl rfl hO dX8_load_33 ?_
    refine zY.as (b := (zN D : Int)) (by simp [zrow, zwr]) ?_
    refine zY.icmp_ge (tgt := 58) ⟨by omega, by omega⟩ ⟨by omega, by omega⟩ hO dX8_load_36 (by decide) (fun c36 => ?_) (fun c36 => ?_)
    ·
      exact zY.vret rfl ⟨rfl, ⟨⟨hba.row (fun q h1 h2 => by rw [zrow_ne (by omega), zwr_ne (by omega)]), fun x hx => by
        rw [zrow_ne (by decide), zwr_ne (by decide), hq3, zrow_ne (by decide), zrow_eq, (hq4 x hx).1]
        exact h5q x hx, fun j hj => by rw [zrow_eq]; exact hJ j (by omega), by rw [zrow_ne (by decide)]; simp [zwr]⟩, fun x hx => by
        rw [zrow_ne (by decide), zwr_ne (by decide), hq3, zrow_eq, (hq4 x hx).2]
        exact h5q x hx, (hsm.wr (by decide) (by decide)).row (by decide) (by decide)⟩⟩ hR hO dX8_load_58
    ·
      refine zY.aload_n hO dX8_load_39 rfl ?_
      refine zY.getR zfl_X8_30 (by decide : 77 < 150) rfl rfl hO dX8_load_40 ?_
      refine zY.iload_n hO dX8_load_43 rfl ?_
      refine zY.aload_n hO dX8_load_44 rfl ?_
      refine zY.iload_n hO dX8_load_45 rfl ?_
      refine zY.callV1iD (ct_X3_digitAt (by omega)) (by decide) zcal_X3_digitAt zml_X8_65 (by decide : 18 < 150) rfl rfl (Nat.le_of_ble_eq_true rfl) rfl ⟨Nat.zero_le _, Nat.zero_le _⟩ hO dX8_load_46 ?_
      refine zY.as (b := (zord D i : Int)) (by rw [zrow_ne (by decide), zwr_ne (by decide), hp2.1 i (by omega)]; have := (hOq.2.1 i (by omega)).1; omega) ?_
      refine zY.callV2vD (ct_putN zrw_88 (j := i) (by omega)) (by decide) zcal_X5_put zml_X8_69 (by decide : 88 < 150) rfl rfl (Nat.le_of_ble_eq_true rfl) rfl ⟨Nat.zero_le _, Nat.zero_le _⟩ hO dX8_load_49 ?_
      refine zY.iinc3 _ rfl (zc1_P _) hO dX8_load_52 ?_
      refine zY.goto (tgt := 31) hO dX8_load_55 (by decide) ?_
      have hin := ih31 (by omega) (fun j => if j = i then (zord D i : Int) else hq j) (fun j hj => by by_cases e : j = i; (· rw [if_pos e, e]); (· rw [if_neg e]; exact hJ j (by omega)))
      rw [← zwr_row] at hin
      exact hin
  have hin := L31 0 (by omega) (μ2 89) (fun j h => by omega)
  rw [zrow_self (fun _ => by rw [zwr_ne (by decide)])] at hin
  exact hin

set_option maxRecDepth 100000 in
set_option maxHeartbeats 4000000 in
theorem ct_X8_verdict {μ : zMem} {D : zBk} (hW : zWF D) (hOq : zOrd D) (hw : zWl D μ) (h0 : ∀ x, x < 6 → μ 87 x = D 5 x) {w : Int} (hwz : zr w) : Ci kX8_verdict 8 150 zSX [zP 77, zI w] μ (fun r μ' => r = zjv D w ∧ ∃ h, μ' = zrow μ 87 h) := by
  refine Ct.of [some (zP 77), some (zI w), none, none, none, none] rfl (Nat.le_of_ble_eq_true rfl) (by decide +kernel) (fun Γ ad hO hR => ?_)
  have hNn := hOq.1
  refine zY.iconst hO dX8_verdict_0 ?_
  refine zY.istore2 (zc1_I _) hO dX8_verdict_1 ?_
  have L2 : ∀ i : Nat, i ≤ zN D → ∀ (μ1 : zMem) (hq : Nat → Int), μ1 = zrow μ 87 hq → (∀ x, x < 6 → hq x = zwk D i x) → zjp D = zfst (fun k => decide (zlks D k ≠ -6)) i (zN D - i) → zY Γ (150, zSX, ad, 0, 0) 2 [some (zP 77), some (zI w), some (zI (i : Int)), none, none, none] [] μ1 := by
    refine zdown (zN D) (fun i hi_i ih2 => ?_)
    intro μ1 hq hI hJ hV
    have hw1 : zWl D μ1 := hw.row (fun q h1 h2 h3 => by rw [hI, zrow_ne h3])
    refine zY.iload_n hO dX8_verdict_2 rfl ?_
    refine zY.aload_n hO dX8_verdict_3 rfl ?_
    refine zY.getI zfl_X8_43 (by decide : 77 < 150) rfl rfl hO dX8_verdict_4 ?_
    refine zY.as (b := (zN D : Int)) hw1.2.2.2 ?_
    refine zY.icmp_ge (tgt := 98) ⟨by omega, by omega⟩ ⟨by omega, by omega⟩ hO dX8_verdict_7 (by decide) (fun c7 => ?_) (fun c7 => ?_)
    ·
      refine zY.bipush hO dX8_verdict_98 (by decide) ?_
      exact zY.iret rfl ⟨_, rfl, ⟨by unfold zjv; rw [if_pos (by rw [hV, show i = zN D by omega, zfst_end])], hq, hI⟩⟩ hR hO dX8_verdict_100
    ·
      refine zY.aload_n hO dX8_verdict_10 rfl ?_
      refine zY.getR zfl_X8_30 (by decide : 77 < 150) rfl rfl hO dX8_verdict_11 ?_
      refine zY.iload_n hO dX8_verdict_14 rfl ?_
      refine zY.callV1iD (ct_atN zrw_88 (j := i) (by omega)) (by decide) zcal_X5_at zml_X8_73 (by decide : 88 < 150) rfl rfl (Nat.le_of_ble_eq_true rfl) rfl ⟨Nat.zero_le _, Nat.zero_le _⟩ hO dX8_verdict_15 ?_
      refine zY.as (b := (zord D i : Int)) (hw1.2.2.1 i (by omega)) ?_
      have ho := hOq.2.1 i (by omega)
      have hl1 : ∀ x, x < 6 → μ1 (83 + 4) x = zwk D i x := fun x hx => by rw [hI, show zrow μ 87 hq (83 + 4) = hq from zrow_eq]; exact hJ x hx
      refine zY.istore3 (zc1_I _) hO dX8_verdict_18 ?_
      refine zY.iconst hO dX8_verdict_19 ?_
      refine zY.istore4 (zc1_I _) hO dX8_verdict_20 ?_
      have L22 : ∀ j : Nat, j ≤ 6 → zlks D i = zfst (fun x => decide (0 < zlkk D i x)) j (6 - j) → zY Γ (150, zSX, ad, 0, 0) 22 [some (zP 77), some (zI w), some (zI (i : Int)), some (zI (zord D i : Int)), some (zI (j : Int)), none] [] μ1 := by
        refine zdown (6) (fun j hi_j ih22 => ?_)
        intro hL
        refine zY.iload hO dX8_verdict_22 rfl ?_
        refine zY.bipush hO dX8_verdict_24 (by decide) ?_
        refine zY.icmp_ge (tgt := 77) ⟨by omega, by omega⟩ ⟨by omega, by omega⟩ hO dX8_verdict_26 (by decide) (fun c26 => ?_) (fun c26 => ?_)
        ·
          refine zY.aload_n hO dX8_verdict_77 rfl ?_
          refine zY.getR zfl_X8_23 (by decide : 77 < 150) rfl rfl hO dX8_verdict_78 ?_
          refine zY.aload_n hO dX8_verdict_81 rfl ?_
          refine zY.getR zfl_X8_14 (by decide : 77 < 150) rfl rfl hO dX8_verdict_82 ?_
          refine zY.iload_n hO dX8_verdict_85 rfl ?_
          refine zY.callV1iD (ct_X0_broken zbl_78 ho.2.1) (by decide) zcal_X0_broken zml_X8_80 (by decide : 78 < 150) rfl rfl (Nat.le_of_ble_eq_true rfl) rfl ⟨Nat.zero_le _, Nat.zero_le _⟩ hO dX8_verdict_86 ?_
          refine zY.as (b := zbx D (zord D i) 0) ((hw1.1 _ ho.2.1).2) ?_
          refine zY.callV1vD (ct_breakOne zst_83 (zbx_b 0 hW ho.2.1) (fun x hx => by have hz1 := zwk_b hW hx i; rw [hl1 x hx]; exact ⟨by omega, by omega⟩)) (by decide) zcal_X7_breakOne zml_X8_83 (by decide : 83 < 150) rfl rfl (Nat.le_of_ble_eq_true rfl) rfl ⟨Nat.zero_le _, Nat.zero_le _⟩ hO dX8_verdict_89 ?_
          refine zY.iinc2 _ rfl (zc1_I _) hO dX8_verdict_92 ?_
          refine zY.goto (tgt := 2) hO dX8_verdict_95 (by decide) ?_
          refine zY.none3 ?_
          refine zY.none4 ?_
          refine ih2 (by omega) _ (zls hq (zbx D (zord D i) 0)) (by rw [hI, show zrow μ 87 hq (83 + 4) = hq from zrow_eq]; exact zrow_row) (fun x hx => by simp only [zwk]; exact zls_congr (hJ x hx)) ?_
          rw [hV, zfst_go (by omega)]
          simp only [decide_eq_true_eq]
          intro hzz
          exact hzz (by rw [hL, show j = 6 by omega, zfst_end])
        ·
          refine zY.aload_n hO dX8_verdict_29 rfl ?_
          refine zY.getR zfl_X8_23 (by decide : 77 < 150) rfl rfl hO dX8_verdict_30 ?_
          refine zY.aload_n hO dX8_verdict_33 rfl ?_
          refine zY.getR zfl_X8_14 (by decide : 77 < 150) rfl rfl hO dX8_verdict_34 ?_
          refine zY.iload_n hO dX8_verdict_37 rfl ?_
          refine zY.iload hO dX8_verdict_38 rfl ?_
          refine zY.callV3iD (ct_X7_lackOf zst_83 zbl_78 (A := znd D (zord D i) 0) (F := zwk D i) (hw1.1 (zord D i) ho.2.1).1 hl1 (fun x hx => by have h1q := znd_b (ch := 0) x hW ho.2.1; have h2q := zwk_b hW hx i; omega) ho.2.1 (by omega)) (by decide) zcal_X7_lackOf zml_X8_76 (by decide : 83 < 150) rfl rfl (Nat.le_of_ble_eq_true rfl) rfl ⟨Nat.zero_le _, Nat.zero_le _⟩ hO dX8_verdict_40 ?_
          refine zY.as (b := zlkk D i j) rfl ?_
          have hlb := zlkk_b hW ho.2.1 (show j < 6 by omega)
          refine zY.istore5 (zc1_I _) hO dX8_verdict_43 ?_
          refine zY.iload hO dX8_verdict_45 rfl ?_
          refine zY.if_le (tgt := 71) ⟨by omega, by omega⟩ hO dX8_verdict_47 (by decide) (fun c47 => ?_) (fun c47 => ?_)
          ·
            refine zY.iinc4 _ rfl (zc1_I _) hO dX8_verdict_71 ?_
            refine zY.goto (tgt := 22) hO dX8_verdict_74 (by decide) ?_
            refine zY.none5 ?_
            exact ih22 (by omega) (by rw [hL, zfst_go (by omega) (by simp; omega)])
          ·
            have hz1 : zlks D i = (j : Int) := by rw [hL, zfst_hit (by omega) (decide_eq_true (by omega))]
            have hz2 : zjp D = (i : Int) := by rw [hV, zfst_hit (by omega) (decide_eq_true (by omega))]
            refine zY.iload_n hO dX8_verdict_50 rfl ?_
            refine zY.if_ne (tgt := 58) hwz hO dX8_verdict_51 (by decide) (fun c51 => ?_) (fun c51 => ?_)
            ·
              refine zY.iload_n hO dX8_verdict_58 rfl ?_
              refine zY.iconst hO dX8_verdict_59 ?_
              refine zY.icmp_ne (tgt := 68) hwz ⟨by omega, by omega⟩ hO dX8_verdict_60 (by decide) (fun c60 => ?_) (fun c60 => ?_)
              ·
                refine zY.iload hO dX8_verdict_68 rfl ?_
                exact zY.iret rfl ⟨_, rfl, ⟨by unfold zjv; rw [if_neg (by omega), if_neg (by omega), if_neg (by omega), hz2, Int.toNat_natCast, hz1, Int.toNat_natCast], hq, hI⟩⟩ hR hO dX8_verdict_70
              ·
                refine zY.iload hO dX8_verdict_63 rfl ?_
                refine zY.goto (tgt := 70) hO dX8_verdict_65 (by decide) ?_
                exact zY.iret rfl ⟨_, rfl, ⟨by unfold zjv; rw [if_neg (by omega), if_neg (by omega), if_pos (by omega), hz2, Int.toNat_natCast, hz1], hq, hI⟩⟩ hR hO dX8_verdict_70
            ·
              refine zY.iload_n hO dX8_verdict_54 rfl ?_
              refine zY.goto (tgt := 70) hO dX8_verdict_55 (by decide) ?_
              exact zY.iret rfl ⟨_, rfl, ⟨by unfold zjv; rw [if_neg (by omega), if_pos (by omega), hz2], hq, hI⟩⟩ hR hO dX8_verdict_70
      exact L22 0 (by omega) rfl
  exact L2 0 (by omega) μ (μ 87) (zrow_self (fun _ => rfl)).symm (fun x hx => (h0 x hx)) rfl

set_option maxRecDepth 100000 in
set_option maxHeartbeats 4000000 in
theorem ct_X8_costOfLevel {μ : zMem} {D : zBk} (hW : zWF D) (hOq : zOrd D) (hw : zWl D μ) {x : Nat} (hx : x < 6) {lv : Int} (hlv : zr lv) (hl : ∀ i, i < zN D → μ 91 i = zlkk D i x) : Ci kX8_costOfLevel 4 150 zSX [zP 77, zI lv, zI (D 8 0), zI (D 6 x)] μ (fun r μ' => r = zlc D x lv (zN D) ∧ μ' = μ) := by
  refine Ct.of [some (zP 77), some (zI lv), some (zI (D 8 0)), some (zI (D 6 x)), none, none, none, none] rfl (Nat.le_of_ble_eq_true rfl) (by decide +kernel) (fun Γ ad hO hR => ?_)
  have hNn := hOq.1
  have hfe : 0 ≤ D 8 0 ∧ D 8 0 ≤ 99 := ⟨hW.2.2.1, hW.2.2.2.1⟩
  have hre : 0 ≤ D 6 x ∧ D 6 x ≤ 99 := by have := hW.2.1 x hx; omega
  refine zY.iconst hO dX8_costOfLevel_0 ?_
  refine zY.istore4 (zc1_I _) hO dX8_costOfLevel_1 ?_
  refine zY.bipush hO dX8_costOfLevel_3 (by decide) ?_
  refine zY.istore5 (zc1_I _) hO dX8_costOfLevel_5 ?_
  refine zY.iconst hO dX8_costOfLevel_7 ?_
  refine zY.istore6 (zc1_I _) hO dX8_costOfLevel_8 ?_
  have L10 : ∀ i : Nat, i ≤ zN D → zY Γ (150, zSX, ad, 0, 0) 10 [some (zP 77), some (zI lv), some (zI (D 8 0)), some (zI (D 6 x)), some (zI (zlc D x lv i)), some (zI (zla D x lv i)), some (zI (i : Int)), none] [] μ := by
    refine zdown (zN D) (fun i hi_i ih10 => ?_)
    have hlab := zla_b D x lv i
    refine zY.iload hO dX8_costOfLevel_10 rfl ?_
    refine zY.aload_n hO dX8_costOfLevel_12 rfl ?_
    refine zY.getI zfl_X8_43 (by decide : 77 < 150) rfl rfl hO dX8_costOfLevel_13 ?_
    refine zY.as (b := (zN D : Int)) hw.2.2.2 ?_
    refine zY.icmp_ge (tgt := 77) ⟨by omega, by omega⟩ ⟨by omega, by omega⟩ hO dX8_costOfLevel_16 (by decide) (fun c16 => ?_) (fun c16 => ?_)
    ·
      refine zY.iload hO dX8_costOfLevel_77 rfl ?_
      exact zY.iret rfl ⟨_, rfl, ⟨by rw [show i = zN D by omega], rfl⟩⟩ hR hO dX8_costOfLevel_79
    ·
      refine zY.aload_n hO dX8_costOfLevel_19 rfl ?_
      refine zY.getR zfl_X8_34 (by decide : 77 < 150) rfl rfl hO dX8_costOfLevel_20 ?_
      refine zY.iload hO dX8_costOfLevel_23 rfl ?_
      refine zY.callV1iD (ct_atN zrw_90 (j := i) (by omega)) (by decide) zcal_X5_at zml_X8_73 (by decide : 90 < 150) rfl rfl (Nat.le_of_ble_eq_true rfl) rfl ⟨Nat.zero_le _, Nat.zero_le _⟩ hO dX8_costOfLevel_25 ?_
      refine zY.as (b := zlkk D i x) (hl i (by omega)) ?_
      have hlb := zlkk_b hW (hOq.2.1 i (by omega)).2.1 hx
      refine zY.iload_n hO dX8_costOfLevel_28 rfl ?_
      refine zY.icmp_lt (tgt := 71) ⟨by omega, by omega⟩ hlv hO dX8_costOfLevel_29 (by decide) (fun c29 => ?_) (fun c29 => ?_)
      ·
        refine zY.iinc6 _ rfl (zc1_I _) hO dX8_costOfLevel_71 ?_
        refine zY.goto (tgt := 10) hO dX8_costOfLevel_74 (by decide) ?_
        have hin := ih10 (by omega)
        rw [show zlc D x lv (i + 1) = zlc D x lv i by simp only [zlc]; rw [if_neg (by omega)], show zla D x lv (i + 1) = zla D x lv i by simp only [zla]; rw [if_neg (by omega)]] at hin
        exact hin
      ·
        have L52 : ∀ tq : Int, (0 ≤ tq ∧ tq ≤ 495) → tq = (if zla D x lv i = -6 then D 8 0 else ((i : Int) - zla D x lv i - 1) * D 6 x) → zY Γ (150, zSX, ad, 0, 0) 52 [some (zP 77), some (zI lv), some (zI (D 8 0)), some (zI (D 6 x)), some (zI (zlc D x lv i)), some (zI (zla D x lv i)), some (zI (i : Int)), none] [zI tq] μ := by
          intro tq htr htq
          refine zY.istore7 (zc1_I _) hO dX8_costOfLevel_52 ?_
          refine zY.iload hO dX8_costOfLevel_54 rfl ?_
          refine zY.iload_n hO dX8_costOfLevel_56 rfl ?_
          refine zY.iload_n hO dX8_costOfLevel_57 rfl ?_
          refine zY.iload hO dX8_costOfLevel_58 rfl ?_
          refine zY.mmin ⟨by omega, by omega⟩ ⟨by omega, by omega⟩ zmx_X8_59 (Nat.le_of_ble_eq_true rfl) (by decide) rfl ⟨Nat.zero_le _, Nat.zero_le _⟩ hO dX8_costOfLevel_60 ?_
          refine zY.as (b := min (D 8 0) tq) rfl ?_
          refine zY.iadd hO dX8_costOfLevel_63 ?_
          refine zY.iadd hO dX8_costOfLevel_64 ?_
          refine zY.istore4 (zc1_I _) hO dX8_costOfLevel_65 ?_
          refine zY.iload hO dX8_costOfLevel_67 rfl ?_
          refine zY.istore5 (zc1_I _) hO dX8_costOfLevel_69 ?_
          refine zY.iinc6 _ rfl (zc1_I _) hO dX8_costOfLevel_71 ?_
          refine zY.goto (tgt := 10) hO dX8_costOfLevel_74 (by decide) ?_
          refine zY.none7 ?_
          have hin := ih10 (by omega)
          rw [show zlc D x lv (i + 1) = zlc D x lv i + (D 6 x + min (D 8 0) tq) by simp only [zlc]; rw [if_pos (by omega), htq], show zla D x lv (i + 1) = (i : Int) by simp only [zla]; rw [if_pos (by omega)]] at hin
          exact hin
        refine zY.iload hO dX8_costOfLevel_32 rfl ?_
        refine zY.bipush hO dX8_costOfLevel_34 (by decide) ?_
        refine zY.icmp_ne (tgt := 43) ⟨by omega, by omega⟩ ⟨by omega, by omega⟩ hO dX8_costOfLevel_36 (by decide) (fun c36 => ?_) (fun c36 => ?_)
        ·
          have hpr := Int.mul_nonneg (show 0 ≤ (i : Int) - zla D x lv i - 1 by omega) hre.1
          have hpr2 := Int.mul_le_mul (show (i : Int) - zla D x lv i - 1 ≤ 5 by omega) hre.2 hre.1 (by decide)
          refine zY.iload hO dX8_costOfLevel_43 rfl ?_
          refine zY.iload hO dX8_costOfLevel_45 rfl ?_
          refine zY.isub hO dX8_costOfLevel_47 ?_
          refine zY.iconst hO dX8_costOfLevel_48 ?_
          refine zY.isub hO dX8_costOfLevel_49 ?_
          refine zY.iload_n hO dX8_costOfLevel_50 rfl ?_
          refine zY.imul hO dX8_costOfLevel_51 ?_
          exact L52 _ ⟨hpr, by omega⟩ (by rw [if_neg (by omega)])
        ·
          refine zY.iload_n hO dX8_costOfLevel_39 rfl ?_
          refine zY.goto (tgt := 52) hO dX8_costOfLevel_40 (by decide) ?_
          exact L52 _ (by omega) (by rw [if_pos (by omega)])
  exact L10 0 (by omega)

set_option maxRecDepth 100000 in
set_option maxHeartbeats 4000000 in
theorem ct_X8_costOf {μ : zMem} {D : zBk} (hW : zWF D) (hOq : zOrd D) (hw : zWl D μ) (hS : zShp 1 D μ) {x : Nat} (hx : x < 6) : Ci kX8_costOf 5 150 zSX [zP 77, zP 1, zI (x : Int)] μ (fun r μ' => r = zco D x ∧ ∃ h l, μ' = zrow (zrow μ 87 h) 91 l) := by
  refine Ct.of [some (zP 77), some (zP 1), some (zI (x : Int)), none, none, none, none] rfl (Nat.le_of_ble_eq_true rfl) (by decide +kernel) (fun Γ ad hO hR => ?_)
  have hNn := hOq.1
  refine zY.aload_n hO dX8_costOf_0 rfl ?_
  refine zY.getR zfl_X8_23 (by decide : 77 < 150) rfl rfl hO dX8_costOf_1 ?_
  refine zY.callV0v (ct_X7_refill zst_83) (by decide) zcal_X7_refill zml_X8_90 (by decide : 83 < 150) rfl rfl (Nat.le_of_ble_eq_true rfl) rfl ⟨Nat.zero_le _, Nat.zero_le _⟩ hO dX8_costOf_4 (fun μ1 hq1 => ?_)
  obtain ⟨hq, hq1, hq2⟩ := hq1
  refine zY.iconst hO dX8_costOf_7 ?_
  refine zY.istore3 (zc1_I _) hO dX8_costOf_8 ?_
  refine zY.iconst hO dX8_costOf_9 ?_
  refine zY.istore4 (zc1_I _) hO dX8_costOf_10 ?_
  have L12 : ∀ i : Nat, i ≤ zN D → ∀ (μ1 : zMem) (hq lq : Nat → Int), μ1 = zrow (zrow μ 87 hq) 91 lq → (∀ y, y < 6 → hq y = zwk D i y) → (∀ j, j < i → lq j = zlkk D j x) → zY Γ (150, zSX, ad, 0, 0) 12 [some (zP 77), some (zP 1), some (zI (x : Int)), some (zI (zgr D x i)), some (zI (i : Int)), none, none] [] μ1 := by
    refine zdown (zN D) (fun i hi_i ih12 => ?_)
    intro μ1 hq lq hI hJ hK
    have hw1 : zWl D μ1 := hw.row (fun q h1 h2 h3 => by rw [hI, zrow_ne (by omega), zrow_ne h3])
    have hgr := zgr_b hW hx i (fun j hj => (hOq.2.1 j (by omega)).2.1)
    have hS1 : zShp 1 D μ1 := hS.row (fun q h1 h2 => by rw [hI, zrow_ne (by omega), zrow_ne (by omega)])
    refine zY.iload hO dX8_costOf_12 rfl ?_
    refine zY.aload_n hO dX8_costOf_14 rfl ?_
    refine zY.getI zfl_X8_43 (by decide : 77 < 150) rfl rfl hO dX8_costOf_15 ?_
    refine zY.as (b := (zN D : Int)) hw1.2.2.2 ?_
    refine zY.icmp_ge (tgt := 88) ⟨by omega, by omega⟩ ⟨by omega, by omega⟩ hO dX8_costOf_18 (by decide) (fun c18 => ?_) (fun c18 => ?_)
    ·
      have hiN : i = zN D := by omega
      rw [hiN] at hgr ⊢
      obtain ⟨gn, hgn⟩ : ∃ gn : Nat, zgr D x (zN D) = (gn : Int) := ⟨(zgr D x (zN D)).toNat, by omega⟩
      have hre : 0 ≤ D 6 x ∧ D 6 x ≤ 99 := by have := hW.2.1 x hx; omega
      refine zY.iconst hO dX8_costOf_88 ?_
      refine zY.istore4 (zc1_I _) hO dX8_costOf_89 ?_
      refine zY.iconst hO dX8_costOf_91 ?_
      refine zY.istore5 (zc1_I _) hO dX8_costOf_92 ?_
      have L94 : ∀ l : Nat, l ≤ gn → zY Γ (150, zSX, ad, 0, 0) 94 [some (zP 77), some (zP 1), some (zI (x : Int)), some (zI (zgr D x (zN D))), some (zI (zsum (fun l => zlc D x ((l + 1 : Nat) : Int) (zN D)) l)), some (zI ((l + 1 : Nat) : Int)), none] [] μ1 := by
        refine zdown (gn) (fun l hi_l ih94 => ?_)
        refine zY.iload hO dX8_costOf_94 rfl ?_
        refine zY.iload_n hO dX8_costOf_96 rfl ?_
        refine zY.icmp_gt (tgt := 136) ⟨by omega, by omega⟩ ⟨by omega, by omega⟩ hO dX8_costOf_97 (by decide) (fun c97 => ?_) (fun c97 => ?_)
        ·
          refine zY.iload hO dX8_costOf_136 rfl ?_
          exact zY.iret rfl ⟨_, rfl, ⟨by unfold zco; rw [hgn, Int.toNat_natCast, show l = gn by omega], hq, lq, hI⟩⟩ hR hO dX8_costOf_138
        ·
          refine zY.iload hO dX8_costOf_100 rfl ?_
          refine zY.aload_n hO dX8_costOf_102 rfl ?_
          refine zY.iload hO dX8_costOf_103 rfl ?_
          refine zY.aload_n hO dX8_costOf_105 rfl ?_
          refine zY.getR zfl_X8_96 (by decide : 1 < 150) rfl rfl hO dX8_costOf_106 ?_
          refine zY.iconst hO dX8_costOf_109 ?_
          refine zY.callV1iD (ct_atN zrw_2 (j := 1) (by omega)) (by decide) zcal_X5_at zml_X8_73 (by decide : 2 < 150) rfl rfl (Nat.le_of_ble_eq_true rfl) rfl ⟨Nat.zero_le _, Nat.zero_le _⟩ hO dX8_costOf_110 ?_
          refine zY.as (b := D 8 0) hS1.2.2.1 ?_
          refine zY.aload_n hO dX8_costOf_113 rfl ?_
          refine zY.getR zfl_X8_96 (by decide : 1 < 150) rfl rfl hO dX8_costOf_114 ?_
          refine zY.bipush hO dX8_costOf_117 (by decide) ?_
          refine zY.iload_n hO dX8_costOf_119 rfl ?_
          refine zY.iadd hO dX8_costOf_120 ?_
          refine zY.as (b := ((10 + x : Nat) : Int)) (by omega) ?_
          refine zY.callV1iD (ct_atN zrw_2 (j := 10 + x) (by omega)) (by decide) zcal_X5_at zml_X8_73 (by decide : 2 < 150) rfl rfl (Nat.le_of_ble_eq_true rfl) rfl ⟨Nat.zero_le _, Nat.zero_le _⟩ hO dX8_costOf_121 ?_
          refine zY.as (b := D 6 x) (hS1.2.1 x hx).2.2.1 ?_
          refine zY.callV3iD (ct_X8_costOfLevel hW hOq hw1 hx (lv := ((l + 1 : Nat) : Int)) (by omega) (fun j hj => by rw [hI, zrow_eq]; exact hK j (by omega))) (by decide) zcal_X8_costOfLevel zml_X8_101 (by decide : 77 < 150) rfl rfl (Nat.le_of_ble_eq_true rfl) rfl ⟨Nat.zero_le _, Nat.zero_le _⟩ hO dX8_costOf_124 ?_
          refine zY.iadd hO dX8_costOf_127 ?_
          refine zY.istore4 (zc1_I _) hO dX8_costOf_128 ?_
          refine zY.iinc5 ((l + 1 + 1 : Nat) : Int) (by omega) (zc1_I _) hO dX8_costOf_130 ?_
          refine zY.goto (tgt := 94) hO dX8_costOf_133 (by decide) ?_
          exact ih94 (by omega)
      exact L94 0 (by omega)
    ·
      refine zY.aload_n hO dX8_costOf_21 rfl ?_
      refine zY.getR zfl_X8_30 (by decide : 77 < 150) rfl rfl hO dX8_costOf_22 ?_
      refine zY.iload hO dX8_costOf_25 rfl ?_
      refine zY.callV1iD (ct_atN zrw_88 (j := i) (by omega)) (by decide) zcal_X5_at zml_X8_73 (by decide : 88 < 150) rfl rfl (Nat.le_of_ble_eq_true rfl) rfl ⟨Nat.zero_le _, Nat.zero_le _⟩ hO dX8_costOf_27 ?_
      refine zY.as (b := (zord D i : Int)) (hw1.2.2.1 i (by omega)) ?_
      have ho := hOq.2.1 i (by omega)
      have hl1 : ∀ x, x < 6 → μ1 (83 + 4) x = zwk D i x := fun x hx => by rw [hI, zrow_ne (by decide), show zrow μ 87 hq (83 + 4) = hq from zrow_eq]; exact hJ x hx
      refine zY.istore5 (zc1_I _) hO dX8_costOf_30 ?_
      refine zY.aload_n hO dX8_costOf_32 rfl ?_
      refine zY.getR zfl_X8_23 (by decide : 77 < 150) rfl rfl hO dX8_costOf_33 ?_
      refine zY.aload_n hO dX8_costOf_36 rfl ?_
      refine zY.getR zfl_X8_14 (by decide : 77 < 150) rfl rfl hO dX8_costOf_37 ?_
      refine zY.iload hO dX8_costOf_40 rfl ?_
      refine zY.iload_n hO dX8_costOf_42 rfl ?_
      refine zY.callV3iD (ct_X7_lackOf zst_83 zbl_78 (A := znd D (zord D i) 0) (F := zwk D i) (hw1.1 (zord D i) ho.2.1).1 hl1 (fun x hx => by have h1q := znd_b (ch := 0) x hW ho.2.1; have h2q := zwk_b hW hx i; omega) ho.2.1 hx) (by decide) zcal_X7_lackOf zml_X8_76 (by decide : 83 < 150) rfl rfl (Nat.le_of_ble_eq_true rfl) rfl ⟨Nat.zero_le _, Nat.zero_le _⟩ hO dX8_costOf_43 ?_
      refine zY.as (b := zlkk D i x) rfl ?_
      have hlb := zlkk_b hW ho.2.1 hx
      refine zY.istore6 (zc1_I _) hO dX8_costOf_46 ?_
      refine zY.aload_n hO dX8_costOf_48 rfl ?_
      refine zY.getR zfl_X8_34 (by decide : 77 < 150) rfl rfl hO dX8_costOf_49 ?_
      refine zY.iload hO dX8_costOf_52 rfl ?_
      refine zY.iload hO dX8_costOf_54 rfl ?_
      refine zY.callV2vD (ct_putN zrw_90 (j := i) (by omega)) (by decide) zcal_X5_put zml_X8_69 (by decide : 90 < 150) rfl rfl (Nat.le_of_ble_eq_true rfl) rfl ⟨Nat.zero_le _, Nat.zero_le _⟩ hO dX8_costOf_56 ?_
      refine zY.iload_n hO dX8_costOf_59 rfl ?_
      refine zY.iload hO dX8_costOf_60 rfl ?_
      refine zY.mmax ⟨by omega, by omega⟩ ⟨by omega, by omega⟩ zmx_X8_93 (Nat.le_of_ble_eq_true rfl) (by decide) rfl ⟨Nat.zero_le _, Nat.zero_le _⟩ hO dX8_costOf_62 ?_
      refine zY.as (b := zgr D x (i + 1)) rfl ?_
      refine zY.istore3 (zc1_I _) hO dX8_costOf_65 ?_
      refine zY.aload_n hO dX8_costOf_66 rfl ?_
      refine zY.getR zfl_X8_23 (by decide : 77 < 150) rfl rfl hO dX8_costOf_67 ?_
      refine zY.aload_n hO dX8_costOf_70 rfl ?_
      refine zY.getR zfl_X8_14 (by decide : 77 < 150) rfl rfl hO dX8_costOf_71 ?_
      refine zY.iload hO dX8_costOf_74 rfl ?_
      refine zY.callV1iD (ct_X0_broken zbl_78 ho.2.1) (by decide) zcal_X0_broken zml_X8_80 (by decide : 78 < 150) rfl rfl (Nat.le_of_ble_eq_true rfl) rfl ⟨Nat.zero_le _, Nat.zero_le _⟩ hO dX8_costOf_76 ?_
      refine zY.as (b := zbx D (zord D i) 0) (by rw [zwr_ne (by decide)]; exact (hw1.1 _ ho.2.1).2) ?_
      refine zY.callV1vD (ct_breakOne zst_83 (zbx_b 0 hW ho.2.1) (fun x hx => by have hz1 := zwk_b hW hx i; rw [zwr_ne (by decide), hl1 x hx]; exact ⟨by omega, by omega⟩)) (by decide) zcal_X7_breakOne zml_X8_83 (by decide : 83 < 150) rfl rfl (Nat.le_of_ble_eq_true rfl) rfl ⟨Nat.zero_le _, Nat.zero_le _⟩ hO dX8_costOf_79 ?_
      refine zY.iinc4 _ rfl (zc1_I _) hO dX8_costOf_82 ?_
      refine zY.goto (tgt := 12) hO dX8_costOf_85 (by decide) ?_
      refine zY.none5 ?_
      refine zY.none6 ?_
      refine ih12 (by omega) _ (zls hq (zbx D (zord D i) 0)) (fun j => if j = i then zlkk D i x else lq j) ?_ (fun y hy => by simp only [zwk]; exact zls_congr (hJ y hy)) (fun j hj => by by_cases e : j = i; (· rw [if_pos e, e]); (· rw [if_neg e]; exact hK j (by omega)))
      rw [hI, zwr_ne (by decide), zrow_ne (by decide), show zrow μ 87 hq (83 + 4) = hq from zrow_eq]
      funext q' j'
      by_cases e1 : q' = 91 <;> by_cases e2 : q' = 87 <;> simp [zrow, zwr, e1, e2]
  exact L12 0 (by omega) μ1 hq (μ 91) (by rw [hq1]; funext q' j'; by_cases e : q' = 91 <;> simp [zrow, e]) (fun y hy => (hq2 y hy).trans (hw.2.1 y hy)) (fun j h => by omega)

set_option maxRecDepth 100000 in
set_option maxHeartbeats 4000000 in
theorem ct_X8_costOfAll {μ : zMem} {D : zBk} (hW : zWF D) (hOq : zOrd D) (hw : zWl D μ) (hS : zShp 1 D μ) : Ci kX8_costOfAll 6 150 zSX [zP 77, zP 1] μ (fun r μ' => r = zsum (fun s => zco D s) 6 ∧ ∃ h l, μ' = zrow (zrow μ 87 h) 91 l) := by
  refine Ct.of [some (zP 77), some (zP 1), none, none] rfl (Nat.le_of_ble_eq_true rfl) (by decide +kernel) (fun Γ ad hO hR => ?_)
  refine zY.iconst hO dX8_costOfAll_0 ?_
  refine zY.istore2 (zc1_P _) hO dX8_costOfAll_1 ?_
  refine zY.iconst hO dX8_costOfAll_2 ?_
  refine zY.istore3 (zc1_I _) hO dX8_costOfAll_3 ?_
  have L4 : ∀ i : Nat, i ≤ 6 → ∀ (μ1 : zMem) (hq lq : Nat → Int), μ1 = zrow (zrow μ 87 hq) 91 lq → zY Γ (150, zSX, ad, 0, 0) 4 [some (zP 77), some (zP 1), some (zI (zsum (fun s => zco D s) i)), some (zI (i : Int))] [] μ1 := by
    refine zdown (6) (fun i hi_i ih4 => ?_)
    intro μ1 hq lq hI
    have hw1 : zWl D μ1 := hw.row (fun q h1 h2 h3 => by rw [hI, zrow_ne (by omega), zrow_ne h3])
    have hS1 : zShp 1 D μ1 := hS.row (fun q h1 h2 => by rw [hI, zrow_ne (by omega), zrow_ne (by omega)])
    refine zY.iload_n hO dX8_costOfAll_4 rfl ?_
    refine zY.bipush hO dX8_costOfAll_5 (by decide) ?_
    refine zY.icmp_ge (tgt := 25) ⟨by omega, by omega⟩ ⟨by omega, by omega⟩ hO dX8_costOfAll_7 (by decide) (fun c7 => ?_) (fun c7 => ?_)
    ·
      refine zY.iload_n hO dX8_costOfAll_25 rfl ?_
      exact zY.iret rfl ⟨_, rfl, ⟨by rw [show i = 6 by omega], hq, lq, hI⟩⟩ hR hO dX8_costOfAll_26
    ·
      refine zY.iload_n hO dX8_costOfAll_10 rfl ?_
      refine zY.aload_n hO dX8_costOfAll_11 rfl ?_
      refine zY.aload_n hO dX8_costOfAll_12 rfl ?_
      refine zY.iload_n hO dX8_costOfAll_13 rfl ?_
      refine zY.callV2i (ct_X8_costOf hW hOq hw1 hS1 (x := i) (by omega)) (by decide) zcal_X8_costOf zml_X8_86 (by decide : 77 < 150) rfl rfl (Nat.le_of_ble_eq_true rfl) rfl ⟨Nat.zero_le _, Nat.zero_le _⟩ hO dX8_costOfAll_14 (fun aq μ2 hq3 => ?_)
      obtain ⟨rfl, h2q, l2q, hq3⟩ := hq3
      refine zY.iadd hO dX8_costOfAll_17 ?_
      refine zY.istore2 (zc1_P _) hO dX8_costOfAll_18 ?_
      refine zY.iinc3 _ rfl (zc1_I _) hO dX8_costOfAll_19 ?_
      refine zY.goto (tgt := 4) hO dX8_costOfAll_22 (by decide) ?_
      exact ih4 (by omega) _ h2q l2q (by rw [hq3, hI]; funext q' j'; by_cases e1 : q' = 91 <;> by_cases e2 : q' = 87 <;> simp [zrow, e1, e2])
  exact L4 0 (by omega) μ (μ 87) (μ 91) (by rw [zrow_self (q := 87) (fun _ => rfl), zrow_self (fun _ => rfl)])

set_option maxRecDepth 100000 in
set_option maxHeartbeats 4000000 in
theorem ct_X8_wantFrom {μ : zMem} {D : zBk} (hW : zWF D) (hOq : zOrd D) (hw : zWl D μ) {a : Nat} (ha : a ≤ zN D) : Cv kX8_wantFrom 5 150 zSX [zP 77, zI (a : Int)] μ (fun μ' => ∃ f g, μ' = zrow (zrow μ 93 f) 95 g ∧ ∀ x, x < 6 → f x = zwnt D a x) := by
  refine Ct.of [some (zP 77), some (zI (a : Int)), none, none, none, none] rfl (Nat.le_of_ble_eq_true rfl) (by decide +kernel) (fun Γ ad hO hR => ?_)
  have hNn := hOq.1
  refine zY.aload_n hO dX8_wantFrom_0 rfl ?_
  refine zY.getR zfl_X8_37 (by decide : 77 < 150) rfl rfl hO dX8_wantFrom_1 ?_
  refine zY.iconst hO dX8_wantFrom_4 ?_
  refine zY.callV1vD (ct_X5_fill zrw_92) (by decide) zcal_X5_fill zml_X8_118 (by decide : 92 < 150) rfl rfl (Nat.le_of_ble_eq_true rfl) rfl ⟨Nat.zero_le _, Nat.zero_le _⟩ hO dX8_wantFrom_5 ?_
  refine zY.aload_n hO dX8_wantFrom_8 rfl ?_
  refine zY.getR zfl_X8_40 (by decide : 77 < 150) rfl rfl hO dX8_wantFrom_9 ?_
  refine zY.iconst hO dX8_wantFrom_12 ?_
  refine zY.callV1vD (ct_X5_fill zrw_94) (by decide) zcal_X5_fill zml_X8_118 (by decide : 94 < 150) rfl rfl (Nat.le_of_ble_eq_true rfl) rfl ⟨Nat.zero_le _, Nat.zero_le _⟩ hO dX8_wantFrom_13 ?_
  refine zY.iload_n hO dX8_wantFrom_16 rfl ?_
  refine zY.istore2 (zc1_I _) hO dX8_wantFrom_17 ?_
  have L18 : ∀ i : Nat, i ≤ zN D → ∀ (μ1 : zMem) (fq gq : Nat → Int), μ1 = zrow (zrow μ 93 fq) 95 gq → (∀ y, y < 6 → fq y = zwd D a i y ∧ gq y = zgn D a i y) → a ≤ i → zY Γ (150, zSX, ad, 0, 0) 18 [some (zP 77), some (zI (a : Int)), some (zI (i : Int)), none, none, none] [] μ1 := by
    refine zdown (zN D) (fun i hi_i ih18 => ?_)
    intro μ1 fq gq hI hJ hai
    have hw1 : zWl D μ1 := hw.row (fun q h1 h2 h3 => by rw [hI, zrow_ne (by omega), zrow_ne (by omega)])
    refine zY.iload_n hO dX8_wantFrom_18 rfl ?_
    refine zY.aload_n hO dX8_wantFrom_19 rfl ?_
    refine zY.getI zfl_X8_43 (by decide : 77 < 150) rfl rfl hO dX8_wantFrom_20 ?_
    refine zY.as (b := (zN D : Int)) hw1.2.2.2 ?_
    refine zY.icmp_ge (tgt := 118) ⟨by omega, by omega⟩ ⟨by omega, by omega⟩ hO dX8_wantFrom_23 (by decide) (fun c23 => ?_) (fun c23 => ?_)
    ·
      exact zY.vret rfl ⟨rfl, ⟨fq, gq, hI, fun x hx => by rw [(hJ x hx).1, show i = zN D by omega]; rfl⟩⟩ hR hO dX8_wantFrom_118
    ·
      refine zY.aload_n hO dX8_wantFrom_26 rfl ?_
      refine zY.getR zfl_X8_30 (by decide : 77 < 150) rfl rfl hO dX8_wantFrom_27 ?_
      refine zY.iload_n hO dX8_wantFrom_30 rfl ?_
      refine zY.callV1iD (ct_atN zrw_88 (j := i) (by omega)) (by decide) zcal_X5_at zml_X8_73 (by decide : 88 < 150) rfl rfl (Nat.le_of_ble_eq_true rfl) rfl ⟨Nat.zero_le _, Nat.zero_le _⟩ hO dX8_wantFrom_31 ?_
      refine zY.as (b := (zord D i : Int)) (hw1.2.2.1 i (by omega)) ?_
      have ho := hOq.2.1 i (by omega)
      have hbk := zbk_b 0 hW ho.2.1 ho.2.2
      rw [← zbx_0 ho.2.2] at hbk
      obtain ⟨bq, hbq⟩ : ∃ bq : Nat, zbx D (zord D i) 0 = (bq : Int) := ⟨(zbx D (zord D i) 0).toNat, by omega⟩
      refine zY.istore3 (zc1_I _) hO dX8_wantFrom_34 ?_
      refine zY.iconst hO dX8_wantFrom_35 ?_
      refine zY.istore4 (zc1_I _) hO dX8_wantFrom_36 ?_
      have L38 : ∀ j : Nat, j ≤ 6 → ∀ (μ2 : zMem) (f2q : Nat → Int), μ2 = zrow (zrow μ 93 f2q) 95 gq → (∀ y, y < 6 → f2q y = if y < j then zwd D a (i + 1) y else zwd D a i y) → zY Γ (150, zSX, ad, 0, 0) 38 [some (zP 77), some (zI (a : Int)), some (zI (i : Int)), some (zI (zord D i : Int)), some (zI (j : Int)), none] [] μ2 := by
        refine zdown (6) (fun j hi_j ih38 => ?_)
        intro μ2 f2q hI2 hJ2
        have hw2 : zWl D μ2 := hw.row (fun q h1 h2 h3 => by rw [hI2, zrow_ne (by omega), zrow_ne (by omega)])
        refine zY.iload hO dX8_wantFrom_38 rfl ?_
        refine zY.bipush hO dX8_wantFrom_40 (by decide) ?_
        refine zY.icmp_ge (tgt := 96) ⟨by omega, by omega⟩ ⟨by omega, by omega⟩ hO dX8_wantFrom_42 (by decide) (fun c42 => ?_) (fun c42 => ?_)
        ·
          refine zY.aload_n hO dX8_wantFrom_96 rfl ?_
          refine zY.getR zfl_X8_40 (by decide : 77 < 150) rfl rfl hO dX8_wantFrom_97 ?_
          refine zY.aload_n hO dX8_wantFrom_100 rfl ?_
          refine zY.getR zfl_X8_14 (by decide : 77 < 150) rfl rfl hO dX8_wantFrom_101 ?_
          refine zY.iload_n hO dX8_wantFrom_104 rfl ?_
          refine zY.callV1iD (ct_X0_broken zbl_78 ho.2.1) (by decide) zcal_X0_broken zml_X8_80 (by decide : 78 < 150) rfl rfl (Nat.le_of_ble_eq_true rfl) rfl ⟨Nat.zero_le _, Nat.zero_le _⟩ hO dX8_wantFrom_105 ?_
          refine zY.as (b := (bq : Int)) (((hw2.1 _ ho.2.1).2).trans hbq) ?_
          refine zY.iconst hO dX8_wantFrom_108 ?_
          refine zY.callV2vD (ct_X5_add zrw_94 (j := bq) (by omega)) (by decide) zcal_X5_add zml_X8_124 (by decide : 94 < 150) rfl rfl (Nat.le_of_ble_eq_true rfl) rfl ⟨Nat.zero_le _, Nat.zero_le _⟩ hO dX8_wantFrom_109 ?_
          refine zY.iinc2 _ rfl (zc1_I _) hO dX8_wantFrom_112 ?_
          refine zY.goto (tgt := 18) hO dX8_wantFrom_115 (by decide) ?_
          refine zY.none3 ?_
          refine zY.none4 ?_
          refine ih18 (by omega) _ f2q (fun y => if y = bq then gq bq + 1 else gq y) (by rw [hI2, zrow_eq]; funext q' j'; by_cases e1 : q' = 95 <;> by_cases e2 : q' = 93 <;> simp [zrow, zwr, e1, e2]) (fun y hy => ⟨by rw [hJ2 y hy, if_pos (by omega)], ?_⟩) (by omega)
          simp only [zgn]
          rw [hbq]
          by_cases e : y = bq
          · rw [if_pos e, if_pos ⟨hai, by omega⟩, ← e, (hJ y hy).2]
          · rw [if_neg e, if_neg (fun z => by omega), (hJ y hy).2]
            omega
        ·
          refine zY.aload_n hO dX8_wantFrom_45 rfl ?_
          refine zY.getR zfl_X8_14 (by decide : 77 < 150) rfl rfl hO dX8_wantFrom_46 ?_
          refine zY.iload_n hO dX8_wantFrom_49 rfl ?_
          refine zY.iload hO dX8_wantFrom_50 rfl ?_
          refine zY.callV2iD (ct_X0_amount zbl_78 ho.2.1 (x := j) (by omega)) (by decide) zcal_X0_amount zml_X8_121 (by decide : 78 < 150) rfl rfl (Nat.le_of_ble_eq_true rfl) rfl ⟨Nat.zero_le _, Nat.zero_le _⟩ hO dX8_wantFrom_52 ?_
          refine zY.as (b := znd D (zord D i) 0 j) ((hw2.1 _ ho.2.1).1 j (by omega)) ?_
          refine zY.aload_n hO dX8_wantFrom_55 rfl ?_
          refine zY.getR zfl_X8_40 (by decide : 77 < 150) rfl rfl hO dX8_wantFrom_56 ?_
          refine zY.iload hO dX8_wantFrom_59 rfl ?_
          refine zY.callV1iD (ct_atN zrw_94 (j := j) (by omega)) (by decide) zcal_X5_at zml_X8_73 (by decide : 94 < 150) rfl rfl (Nat.le_of_ble_eq_true rfl) rfl ⟨Nat.zero_le _, Nat.zero_le _⟩ hO dX8_wantFrom_61 ?_
          refine zY.as (b := zgn D a i j) (by rw [hI2, zrow_eq]; exact (hJ j (by omega)).2) ?_
          refine zY.iadd hO dX8_wantFrom_64 ?_
          refine zY.istore5 (zc1_I _) hO dX8_wantFrom_65 ?_
          refine zY.aload_n hO dX8_wantFrom_67 rfl ?_
          refine zY.getR zfl_X8_37 (by decide : 77 < 150) rfl rfl hO dX8_wantFrom_68 ?_
          refine zY.iload hO dX8_wantFrom_71 rfl ?_
          refine zY.aload_n hO dX8_wantFrom_73 rfl ?_
          refine zY.getR zfl_X8_37 (by decide : 77 < 150) rfl rfl hO dX8_wantFrom_74 ?_
          refine zY.iload hO dX8_wantFrom_77 rfl ?_
          refine zY.callV1iD (ct_atN zrw_92 (j := j) (by omega)) (by decide) zcal_X5_at zml_X8_73 (by decide : 92 < 150) rfl rfl (Nat.le_of_ble_eq_true rfl) rfl ⟨Nat.zero_le _, Nat.zero_le _⟩ hO dX8_wantFrom_79 ?_
          refine zY.as (b := zwd D a i j) (by rw [hI2, zrow_ne (by decide), zrow_eq, hJ2 j (by omega), if_neg (by omega)]) ?_
          have hz1 := zwd_b hW a (x := j) i (fun j hj => (hOq.2.1 j (by omega)).2.1)
          have hz2 := zgn_b D a j i
          have hz3 := znd_b (ch := 0) j hW ho.2.1
          refine zY.iload hO dX8_wantFrom_82 rfl ?_
          refine zY.mmax ⟨by omega, by omega⟩ ⟨by omega, by omega⟩ zmx_X8_93 (Nat.le_of_ble_eq_true rfl) (by decide) rfl ⟨Nat.zero_le _, Nat.zero_le _⟩ hO dX8_wantFrom_84 ?_
          refine zY.as (b := zwd D a (i + 1) j) (by simp only [zwd]; rw [if_pos hai]) ?_
          refine zY.callV2vD (ct_putN zrw_92 (j := j) (by omega)) (by decide) zcal_X5_put zml_X8_69 (by decide : 92 < 150) rfl rfl (Nat.le_of_ble_eq_true rfl) rfl ⟨Nat.zero_le _, Nat.zero_le _⟩ hO dX8_wantFrom_87 ?_
          refine zY.iinc4 _ rfl (zc1_I _) hO dX8_wantFrom_90 ?_
          refine zY.goto (tgt := 38) hO dX8_wantFrom_93 (by decide) ?_
          refine zY.none5 ?_
          refine ih38 (by omega) _ (fun y => if y = j then zwd D a (i + 1) j else f2q y) (by rw [hI2]; funext q' j'; by_cases e1 : q' = 95 <;> by_cases e2 : q' = 93 <;> simp [zrow, zwr, e1, e2]) (fun y hy => ?_)
          by_cases e : y = j
          · rw [if_pos e, if_pos (by omega), e]
          · rw [if_neg e, hJ2 y hy]
            by_cases e2 : y < j
            · rw [if_pos e2, if_pos (by omega)]
            · rw [if_neg e2, if_neg (by omega)]
      exact L38 0 (by omega) _ fq hI (fun y hy => by rw [if_neg (by omega)]; exact (hJ y hy).1)
  exact L18 a ha _ (fun j => if j < 6 then 0 else μ 93 j) (fun j => if j < 6 then 0 else μ 95 j) (by rw [zrow_ne (q := 93) (by decide)]) (fun y hy => by rw [zwd_lo y a (Nat.le_refl a), zgn_lo y a (Nat.le_refl a)]; exact ⟨if_pos hy, if_pos hy⟩) (Nat.le_refl a)

set_option maxRecDepth 100000 in
set_option maxHeartbeats 4000000 in
theorem ct_X8_newOf {μ : zMem} {D : zBk} (hW : zWF D) (hOq : zOrd D) (hw : zWl D μ) {a x : Nat} (hx : x < 6) (ha : ∀ y, y < 6 → μ 93 y = zwnt D a y) : Ci kX8_newOf 3 150 zSX [zP 77, zI (x : Int)] μ (fun r μ' => r = (if x = 0 then zsum (D 5) 6 - zsum (zwnt D a) 6 + zwnt D a 0 else zwnt D a x) ∧ μ' = μ) := by
  refine Ct.of [some (zP 77), some (zI (x : Int))] rfl (Nat.le_of_ble_eq_true rfl) (by decide +kernel) (fun Γ ad hO hR => ?_)
  refine zY.iload_n hO dX8_newOf_0 rfl ?_
  refine zY.if_ne (tgt := 31) ⟨by omega, by omega⟩ hO dX8_newOf_1 (by decide) (fun c1 => ?_) (fun c1 => ?_)
  ·
    refine zY.aload_n hO dX8_newOf_31 rfl ?_
    refine zY.getR zfl_X8_37 (by decide : 77 < 150) rfl rfl hO dX8_newOf_32 ?_
    refine zY.iload_n hO dX8_newOf_35 rfl ?_
    refine zY.callV1iD (ct_atN zrw_92 (j := x) hx) (by decide) zcal_X5_at zml_X8_73 (by decide : 92 < 150) rfl rfl (Nat.le_of_ble_eq_true rfl) rfl ⟨Nat.zero_le _, Nat.zero_le _⟩ hO dX8_newOf_36 ?_
    refine zY.as (b := zwnt D a x) (ha x hx) ?_
    exact zY.iret rfl ⟨_, rfl, ⟨by rw [if_neg (by omega)], rfl⟩⟩ hR hO dX8_newOf_39
  ·
    refine zY.aload_n hO dX8_newOf_4 rfl ?_
    refine zY.getR zfl_X8_23 (by decide : 77 < 150) rfl rfl hO dX8_newOf_5 ?_
    refine zY.callV0iD (ct_X7_whole zst_83) (by decide) zcal_X7_whole zml_X8_111 (by decide : 83 < 150) rfl rfl (Nat.le_of_ble_eq_true rfl) rfl ⟨Nat.zero_le _, Nat.zero_le _⟩ hO dX8_newOf_8 ?_
    refine zY.as (b := zsum (D 5) 6) (zsum_congr 6 hw.2.1) ?_
    refine zY.aload_n hO dX8_newOf_11 rfl ?_
    refine zY.getR zfl_X8_37 (by decide : 77 < 150) rfl rfl hO dX8_newOf_12 ?_
    refine zY.callV0iD (ct_X5_sum zrw_92) (by decide) zcal_X5_sum zml_X8_108 (by decide : 92 < 150) rfl rfl (Nat.le_of_ble_eq_true rfl) rfl ⟨Nat.zero_le _, Nat.zero_le _⟩ hO dX8_newOf_15 ?_
    refine zY.as (b := zsum (zwnt D a) 6) (zsum_congr 6 ha) ?_
    refine zY.isub hO dX8_newOf_18 ?_
    refine zY.aload_n hO dX8_newOf_19 rfl ?_
    refine zY.getR zfl_X8_37 (by decide : 77 < 150) rfl rfl hO dX8_newOf_20 ?_
    refine zY.iconst hO dX8_newOf_23 ?_
    refine zY.callV1iD (ct_atN zrw_92 (j := 0) (by omega)) (by decide) zcal_X5_at zml_X8_73 (by decide : 92 < 150) rfl rfl (Nat.le_of_ble_eq_true rfl) rfl ⟨Nat.zero_le _, Nat.zero_le _⟩ hO dX8_newOf_24 ?_
    refine zY.as (b := zwnt D a 0) (ha 0 (by omega)) ?_
    refine zY.iadd hO dX8_newOf_27 ?_
    refine zY.goto (tgt := 39) hO dX8_newOf_28 (by decide) ?_
    exact zY.iret rfl ⟨_, rfl, ⟨by rw [if_pos (by omega)], rfl⟩⟩ hR hO dX8_newOf_39

set_option maxRecDepth 100000 in
set_option maxHeartbeats 4000000 in
theorem ct_X8_meltingPlace {μ : zMem} {D : zBk} (hW : zWF D) (hOq : zOrd D) (hw : zWl D μ) (h0 : ∀ x, x < 6 → μ 87 x = D 5 x)  : Ci kX8_meltingPlace 8 150 zSX [zP 77] μ (fun r μ' => r = zmp D ∧ ((∀ a : Nat, zmp D = (a : Int) → ∀ y, y < 6 → μ' 93 y = zwnt D a y) ∧ zWl D μ' ∧ zSame 77 95 μ μ')) := by
  refine Ct.of [some (zP 77), none, none] rfl (Nat.le_of_ble_eq_true rfl) (by decide +kernel) (fun Γ ad hO hR => ?_)
  have hNn := hOq.1
  have hd5 := zD5_b hW
  refine zY.iconst hO dX8_meltingPlace_0 ?_
  refine zY.istore1 (zc1_P _) hO dX8_meltingPlace_1 ?_
  have L2 : ∀ i : Nat, i ≤ zN D + 1 → ∀ (μ1 : zMem), zWl D μ1 → (∀ x, x < 6 → μ1 87 x = zwk D i x) → zSame 77 95 μ μ1 → zmp D = zmpr D (zN D + 1 - i) i → zY Γ (150, zSX, ad, 0, 0) 2 [some (zP 77), some (zI (i : Int)), none] [] μ1 := by
    refine zdown (zN D + 1) (fun i hi_i ih2 => ?_)
    intro μ1 hw1 hJ hsm hV
    refine zY.iload_n hO dX8_meltingPlace_2 rfl ?_
    refine zY.aload_n hO dX8_meltingPlace_3 rfl ?_
    refine zY.getI zfl_X8_43 (by decide : 77 < 150) rfl rfl hO dX8_meltingPlace_4 ?_
    refine zY.as (b := (zN D : Int)) hw1.2.2.2 ?_
    refine zY.icmp_gt (tgt := 82) ⟨by omega, by omega⟩ ⟨by omega, by omega⟩ hO dX8_meltingPlace_7 (by decide) (fun c7 => ?_) (fun c7 => ?_)
    ·
      refine zY.bipush hO dX8_meltingPlace_82 (by decide) ?_
      exact zY.iret rfl ⟨_, rfl, ⟨by rw [hV, show zN D + 1 - i = 0 by omega]; rfl, fun a2 ha2 => by rw [hV, show zN D + 1 - i = 0 by omega, zmpr] at ha2; omega, hw1, hsm⟩⟩ hR hO dX8_meltingPlace_84
    ·
      refine zY.aload_n hO dX8_meltingPlace_10 rfl ?_
      refine zY.iload_n hO dX8_meltingPlace_11 rfl ?_
      refine zY.callV1v (ct_X8_wantFrom hW hOq hw1 (a := i) (by omega)) (by decide) zcal_X8_wantFrom zml_X8_105 (by decide : 77 < 150) rfl rfl (Nat.le_of_ble_eq_true rfl) rfl ⟨Nat.zero_le _, Nat.zero_le _⟩ hO dX8_meltingPlace_12 (fun μ2 hq1 => ?_)
      obtain ⟨fq, gq, hq1, hq2⟩ := hq1
      have hwb := zwns_b hW hOq i
      have hw2 : zWl D μ2 := hw1.row (fun q h1 h2 h3 => by rw [hq1, zrow_ne (by omega), zrow_ne (by omega)])
      have hsm2 : zSame 77 95 μ μ2 := by rw [hq1]; exact (hsm.row (by decide) (by decide)).row (by decide) (by decide)
      have hwn : ∀ y, y < 6 → μ2 93 y = zwnt D i y := fun y hy => by rw [hq1, zrow_ne (by decide), zrow_eq]; exact hq2 y hy
      have hV2 : zmp D = if zsum (zwnt D i) 6 ≤ zsum (D 5) 6 then (i : Int) else if 0 < zlk (znd D (zord D i) 0) (zwk D i) then -6 else zmpr D (zN D - i) (i + 1) := by rw [hV, show zN D + 1 - i = (zN D - i) + 1 by omega]; rfl
      refine zY.aload_n hO dX8_meltingPlace_15 rfl ?_
      refine zY.getR zfl_X8_37 (by decide : 77 < 150) rfl rfl hO dX8_meltingPlace_16 ?_
      refine zY.callV0iD (ct_X5_sum zrw_92) (by decide) zcal_X5_sum zml_X8_108 (by decide : 92 < 150) rfl rfl (Nat.le_of_ble_eq_true rfl) rfl ⟨Nat.zero_le _, Nat.zero_le _⟩ hO dX8_meltingPlace_19 ?_
      refine zY.as (b := zsum (zwnt D i) 6) (zsum_congr 6 hwn) ?_
      refine zY.aload_n hO dX8_meltingPlace_22 rfl ?_
      refine zY.getR zfl_X8_23 (by decide : 77 < 150) rfl rfl hO dX8_meltingPlace_23 ?_
      refine zY.callV0iD (ct_X7_whole zst_83) (by decide) zcal_X7_whole zml_X8_111 (by decide : 83 < 150) rfl rfl (Nat.le_of_ble_eq_true rfl) rfl ⟨Nat.zero_le _, Nat.zero_le _⟩ hO dX8_meltingPlace_26 ?_
      refine zY.as (b := zsum (D 5) 6) (zsum_congr 6 hw2.2.1) ?_
      refine zY.icmp_gt (tgt := 34) ⟨by omega, by omega⟩ ⟨by omega, by omega⟩ hO dX8_meltingPlace_29 (by decide) (fun c29 => ?_) (fun c29 => ?_)
      ·
        have hiN : i < zN D := by
          have hz := zwns_0 (D := D) (a := i)
          omega
        have ho := hOq.2.1 i hiN
        rw [if_neg (by omega)] at hV2
        have hl1 : ∀ x, x < 6 → μ2 (83 + 4) x = zwk D i x := fun x hx => by rw [hq1, zrow_ne (by decide), zrow_ne (by decide)]; exact hJ x hx
        refine zY.aload_n hO dX8_meltingPlace_34 rfl ?_
        refine zY.getR zfl_X8_30 (by decide : 77 < 150) rfl rfl hO dX8_meltingPlace_35 ?_
        refine zY.iload_n hO dX8_meltingPlace_38 rfl ?_
        refine zY.callV1iD (ct_atN zrw_88 (j := i) (by omega)) (by decide) zcal_X5_at zml_X8_73 (by decide : 88 < 150) rfl rfl (Nat.le_of_ble_eq_true rfl) rfl ⟨Nat.zero_le _, Nat.zero_le _⟩ hO dX8_meltingPlace_39 ?_
        refine zY.as (b := (zord D i : Int)) (hw2.2.2.1 i hiN) ?_
        have hrz : ∀ x, x < 6 → -1000 ≤ znd D (zord D i) 0 x ∧ znd D (zord D i) 0 x ≤ 1000 ∧ -1000 ≤ zwk D i x ∧ zwk D i x ≤ 1000 := fun x hx => by have h1q := znd_b (ch := 0) x hW ho.2.1; have h2q := zwk_b hW hx i; omega
        have hzk := zlk_b hrz
        refine zY.istore2 (zc1_I _) hO dX8_meltingPlace_42 ?_
        refine zY.aload_n hO dX8_meltingPlace_43 rfl ?_
        refine zY.getR zfl_X8_23 (by decide : 77 < 150) rfl rfl hO dX8_meltingPlace_44 ?_
        refine zY.aload_n hO dX8_meltingPlace_47 rfl ?_
        refine zY.getR zfl_X8_14 (by decide : 77 < 150) rfl rfl hO dX8_meltingPlace_48 ?_
        refine zY.iload_n hO dX8_meltingPlace_51 rfl ?_
        refine zY.callV2iD (ct_X7_lacks zst_83 zbl_78 (A := znd D (zord D i) 0) (F := zwk D i) (hw2.1 _ ho.2.1).1 hl1 hrz ho.2.1) (by decide) zcal_X7_lacks zml_X8_114 (by decide : 83 < 150) rfl rfl (Nat.le_of_ble_eq_true rfl) rfl ⟨Nat.zero_le _, Nat.zero_le _⟩ hO dX8_meltingPlace_52 ?_
        refine zY.if_le (tgt := 61) ⟨by omega, by omega⟩ hO dX8_meltingPlace_55 (by decide) (fun c55 => ?_) (fun c55 => ?_)
        ·
          refine zY.aload_n hO dX8_meltingPlace_61 rfl ?_
          refine zY.getR zfl_X8_23 (by decide : 77 < 150) rfl rfl hO dX8_meltingPlace_62 ?_
          refine zY.aload_n hO dX8_meltingPlace_65 rfl ?_
          refine zY.getR zfl_X8_14 (by decide : 77 < 150) rfl rfl hO dX8_meltingPlace_66 ?_
          refine zY.iload_n hO dX8_meltingPlace_69 rfl ?_
          refine zY.callV1iD (ct_X0_broken zbl_78 ho.2.1) (by decide) zcal_X0_broken zml_X8_80 (by decide : 78 < 150) rfl rfl (Nat.le_of_ble_eq_true rfl) rfl ⟨Nat.zero_le _, Nat.zero_le _⟩ hO dX8_meltingPlace_70 ?_
          refine zY.as (b := zbx D (zord D i) 0) ((hw2.1 _ ho.2.1).2) ?_
          refine zY.callV1vD (ct_breakOne zst_83 (zbx_b 0 hW ho.2.1) (fun x hx => by have hz1 := zwk_b hW hx i; rw [hl1 x hx]; exact ⟨by omega, by omega⟩)) (by decide) zcal_X7_breakOne zml_X8_83 (by decide : 83 < 150) rfl rfl (Nat.le_of_ble_eq_true rfl) rfl ⟨Nat.zero_le _, Nat.zero_le _⟩ hO dX8_meltingPlace_73 ?_
          refine zY.iinc1 _ rfl (zc1_P _) hO dX8_meltingPlace_76 ?_
          refine zY.goto (tgt := 2) hO dX8_meltingPlace_79 (by decide) ?_
          refine zY.none2 ?_
          exact ih2 (by omega) _ (hw2.row (fun q h1 h2 h3 => zrow_ne h3)) (fun x hx => by rw [show zrow μ2 (83 + 4) (zls (μ2 (83 + 4)) (zbx D (zord D i) 0)) 87 = zls (μ2 (83 + 4)) (zbx D (zord D i) 0) from zrow_eq]; simp only [zwk]; exact zls_congr (hl1 x hx)) (hsm2.row (by decide) (by decide)) (by rw [hV2, if_neg (by omega), show zN D + 1 - (i + 1) = zN D - i by omega])
        ·
          refine zY.bipush hO dX8_meltingPlace_58 (by decide) ?_
          exact zY.iret rfl ⟨_, rfl, ⟨by rw [hV2, if_pos (by omega)], fun a2 ha2 => by rw [hV2, if_pos (by omega)] at ha2; omega, hw2, hsm2⟩⟩ hR hO dX8_meltingPlace_60
      ·
        refine zY.iload_n hO dX8_meltingPlace_32 rfl ?_
        exact zY.iret rfl ⟨_, rfl, ⟨by rw [hV2, if_pos (by omega)], fun a2 ha2 => by rw [hV2, if_pos (by omega)] at ha2; rw [show a2 = i by omega]; exact hwn, hw2, hsm2⟩⟩ hR hO dX8_meltingPlace_33
  exact L2 0 (by omega) μ hw h0 zSame.rfl' rfl

set_option maxRecDepth 100000 in
set_option maxHeartbeats 4000000 in
theorem ct_X10_judge {μ : zMem} {D : zBk} {K0 K1 : Option zBk} (hX : zRX D K0 K1 μ) {w : Int} (hwz : zr w) : Ci kX10_judge 9 150 zSX [zP 0, zI w] μ (fun a μ' => a = zA_judge D w ∧ zSame 77 95 μ μ') := by
  refine Ct.of [some (zP 0), some (zI w)] rfl (Nat.le_of_ble_eq_true rfl) (by decide +kernel) (fun Γ ad hO hR => ?_)
  refine zY.iload_n hO dX10_judge_0 rfl ?_
  refine zY.iconst hO dX10_judge_1 ?_
  refine zY.iconst hO dX10_judge_2 ?_
  refine zY.callS3iD (ct_X10_within hwz ⟨by omega, by omega⟩ ⟨by omega, by omega⟩) (by decide) zcal_X10_within zml_X10_70 (Nat.le_of_ble_eq_true rfl) rfl ⟨Nat.zero_le _, Nat.zero_le _⟩ hO dX10_judge_3 ?_
  refine zY.if_ne (tgt := 12) zr_b hO dX10_judge_6 (by decide) (fun c6 => ?_) (fun c6 => ?_)
  ·
    replace c6 := zb1.mp c6
    refine zY.aload_n hO dX10_judge_12 rfl ?_
    refine zY.iconst hO dX10_judge_13 ?_
    refine zY.callV1iD (ct_X10_faultAs hX (by decide) (by decide)) (by decide) zcal_X10_faultAs zml_X10_85 (by decide : 0 < 150) rfl rfl (Nat.le_of_ble_eq_true rfl) rfl ⟨Nat.zero_le _, Nat.zero_le _⟩ hO dX10_judge_14 ?_
    refine zY.bipush hO dX10_judge_17 (by decide) ?_
    refine zY.icmp_eq (tgt := 25) (zflt_b hX.1 2) ⟨by omega, by omega⟩ hO dX10_judge_19 (by decide) (fun c19 => ?_) (fun c19 => ?_)
    ·
      have hOq := zOrd_of c19
      refine zY.aload_n hO dX10_judge_25 rfl ?_
      refine zY.getR zfl_X10_52 (by decide : 0 < 150) rfl rfl hO dX10_judge_26 ?_
      refine zY.aload_n hO dX10_judge_29 rfl ?_
      refine zY.getR zfl_X10_10 (by decide : 0 < 150) rfl rfl hO dX10_judge_30 ?_
      refine zY.aload_n hO dX10_judge_33 rfl ?_
      refine zY.getR zfl_X10_19 (by decide : 0 < 150) rfl rfl hO dX10_judge_34 ?_
      refine zY.callV2v (ct_X8_load hX hOq) (by decide) zcal_X8_load zml_X10_140 (by decide : 77 < 150) rfl rfl (Nat.le_of_ble_eq_true rfl) rfl ⟨Nat.zero_le _, Nat.zero_le _⟩ hO dX10_judge_37 (fun μ1 hq1 => ?_)
      obtain ⟨hw1, h01, hsm1⟩ := hq1
      refine zY.aload_n hO dX10_judge_40 rfl ?_
      refine zY.getR zfl_X10_52 (by decide : 0 < 150) rfl rfl hO dX10_judge_41 ?_
      refine zY.iload_n hO dX10_judge_44 rfl ?_
      refine zY.callV1i (ct_X8_verdict hX.1 hOq hw1 h01 hwz) (by decide) zcal_X8_verdict zml_X10_144 (by decide : 77 < 150) rfl rfl (Nat.le_of_ble_eq_true rfl) rfl ⟨Nat.zero_le _, Nat.zero_le _⟩ hO dX10_judge_45 (fun aq μ3 hq4 => ?_)
      obtain ⟨rfl, h3q, hq5⟩ := hq4
      exact zY.iret rfl ⟨_, rfl, ⟨by unfold zA_judge; rw [if_pos c6, if_pos c19], by rw [hq5]; exact hsm1.row (by decide) (by decide)⟩⟩ hR hO dX10_judge_48
    ·
      refine zY.bipush hO dX10_judge_22 (by decide) ?_
      exact zY.iret rfl ⟨_, rfl, ⟨by unfold zA_judge; rw [if_pos c6, if_neg c19], zSame.rfl'⟩⟩ hR hO dX10_judge_24
  ·
    replace c6 := zb0.mp c6
    refine zY.bipush hO dX10_judge_9 (by decide) ?_
    exact zY.iret rfl ⟨_, rfl, ⟨by unfold zA_judge; rw [if_neg c6], zSame.rfl'⟩⟩ hR hO dX10_judge_11

set_option maxRecDepth 100000 in
set_option maxHeartbeats 4000000 in
theorem ct_X10_loans {μ : zMem} {D : zBk} {K0 K1 : Option zBk} (hX : zRX D K0 K1 μ) {x : Int} (hx : zr x) : Ci kX10_loans 9 150 zSX [zP 0, zI x] μ (fun a μ' => a = zA_loans D x ∧ zSame 77 95 μ μ') := by
  refine Ct.of [some (zP 0), some (zI x)] rfl (Nat.le_of_ble_eq_true rfl) (by decide +kernel) (fun Γ ad hO hR => ?_)
  refine zY.iload_n hO dX10_loans_0 rfl ?_
  refine zY.callS1iD (ct_X10_isSortOrAll hx) (by decide) zcal_X10_isSortOrAll zml_X10_127 (Nat.le_of_ble_eq_true rfl) rfl ⟨Nat.zero_le _, Nat.zero_le _⟩ hO dX10_loans_1 ?_
  refine zY.if_ne (tgt := 9) zr_b hO dX10_loans_4 (by decide) (fun c4 => ?_) (fun c4 => ?_)
  ·
    replace c4 := zb1.mp c4
    refine zY.aload_n hO dX10_loans_9 rfl ?_
    refine zY.iconst hO dX10_loans_10 ?_
    refine zY.callV1iD (ct_X10_faultAs hX (by decide) (by decide)) (by decide) zcal_X10_faultAs zml_X10_85 (by decide : 0 < 150) rfl rfl (Nat.le_of_ble_eq_true rfl) rfl ⟨Nat.zero_le _, Nat.zero_le _⟩ hO dX10_loans_11 ?_
    refine zY.bipush hO dX10_loans_14 (by decide) ?_
    refine zY.icmp_eq (tgt := 22) (zflt_b hX.1 2) ⟨by omega, by omega⟩ hO dX10_loans_16 (by decide) (fun c16 => ?_) (fun c16 => ?_)
    ·
      have hOq := zOrd_of c16
      refine zY.aload_n hO dX10_loans_22 rfl ?_
      refine zY.getR zfl_X10_52 (by decide : 0 < 150) rfl rfl hO dX10_loans_23 ?_
      refine zY.aload_n hO dX10_loans_26 rfl ?_
      refine zY.getR zfl_X10_10 (by decide : 0 < 150) rfl rfl hO dX10_loans_27 ?_
      refine zY.aload_n hO dX10_loans_30 rfl ?_
      refine zY.getR zfl_X10_19 (by decide : 0 < 150) rfl rfl hO dX10_loans_31 ?_
      refine zY.callV2v (ct_X8_load hX hOq) (by decide) zcal_X8_load zml_X10_140 (by decide : 77 < 150) rfl rfl (Nat.le_of_ble_eq_true rfl) rfl ⟨Nat.zero_le _, Nat.zero_le _⟩ hO dX10_loans_34 (fun μ1 hq1 => ?_)
      obtain ⟨hw1, h01, hsm1⟩ := hq1
      refine zY.iload_n hO dX10_loans_37 rfl ?_
      refine zY.if_ge (tgt := 55) hx hO dX10_loans_38 (by decide) (fun c38 => ?_) (fun c38 => ?_)
      ·
        refine zY.aload_n hO dX10_loans_55 rfl ?_
        refine zY.getR zfl_X10_52 (by decide : 0 < 150) rfl rfl hO dX10_loans_56 ?_
        refine zY.aload_n hO dX10_loans_59 rfl ?_
        refine zY.getR zfl_X10_10 (by decide : 0 < 150) rfl rfl hO dX10_loans_60 ?_
        refine zY.iload_n hO dX10_loans_63 rfl ?_
        obtain ⟨xq, hxq⟩ : ∃ xq : Nat, x = (xq : Int) := ⟨x.toNat, by omega⟩
        refine zY.as hxq ?_
        refine zY.callV2i (ct_X8_costOf hX.1 hOq hw1 (hsm1.shp hX.2.1 (by decide)) (x := xq) (by omega)) (by decide) zcal_X8_costOf zml_X10_177 (by decide : 77 < 150) rfl rfl (Nat.le_of_ble_eq_true rfl) rfl ⟨Nat.zero_le _, Nat.zero_le _⟩ hO dX10_loans_64 (fun aq μ3 hq4 => ?_)
        obtain ⟨rfl, h3q, l3q, hq5⟩ := hq4
        exact zY.iret rfl ⟨_, rfl, ⟨by unfold zA_loans; rw [if_pos c4, if_pos c16, if_neg (by omega), hxq, Int.toNat_natCast], by rw [hq5]; exact (hsm1.row (by decide) (by decide)).row (by decide) (by decide)⟩⟩ hR hO dX10_loans_67
      ·
        refine zY.aload_n hO dX10_loans_41 rfl ?_
        refine zY.getR zfl_X10_52 (by decide : 0 < 150) rfl rfl hO dX10_loans_42 ?_
        refine zY.aload_n hO dX10_loans_45 rfl ?_
        refine zY.getR zfl_X10_10 (by decide : 0 < 150) rfl rfl hO dX10_loans_46 ?_
        refine zY.callV1i (ct_X8_costOfAll hX.1 hOq hw1 (hsm1.shp hX.2.1 (by decide))) (by decide) zcal_X8_costOfAll zml_X10_173 (by decide : 77 < 150) rfl rfl (Nat.le_of_ble_eq_true rfl) rfl ⟨Nat.zero_le _, Nat.zero_le _⟩ hO dX10_loans_49 (fun aq μ3 hq4 => ?_)
        obtain ⟨rfl, h3q, l3q, hq5⟩ := hq4
        refine zY.goto (tgt := 67) hO dX10_loans_52 (by decide) ?_
        exact zY.iret rfl ⟨_, rfl, ⟨by unfold zA_loans; rw [if_pos c4, if_pos c16, if_pos (by omega)], by rw [hq5]; exact (hsm1.row (by decide) (by decide)).row (by decide) (by decide)⟩⟩ hR hO dX10_loans_67
    ·
      refine zY.bipush hO dX10_loans_19 (by decide) ?_
      exact zY.iret rfl ⟨_, rfl, ⟨by unfold zA_loans; rw [if_pos c4, if_neg c16], zSame.rfl'⟩⟩ hR hO dX10_loans_21
  ·
    replace c4 := zb0.mp c4
    refine zY.iconst hO dX10_loans_7 ?_
    exact zY.iret rfl ⟨_, rfl, ⟨by unfold zA_loans; rw [if_neg c4], zSame.rfl'⟩⟩ hR hO dX10_loans_8

set_option maxRecDepth 100000 in
set_option maxHeartbeats 4000000 in
theorem ct_X10_melt {μ : zMem} {D : zBk} {K0 K1 : Option zBk} (hX : zRX D K0 K1 μ) {x : Int} (hx : zr x) : Ci kX10_melt 9 150 zSX [zP 0, zI x] μ (fun a μ' => a = zA_melt D x ∧ zSame 77 95 μ μ') := by
  refine Ct.of [some (zP 0), some (zI x), none] rfl (Nat.le_of_ble_eq_true rfl) (by decide +kernel) (fun Γ ad hO hR => ?_)
  refine zY.iload_n hO dX10_melt_0 rfl ?_
  refine zY.callS1iD (ct_X10_isSortOrAll hx) (by decide) zcal_X10_isSortOrAll zml_X10_127 (Nat.le_of_ble_eq_true rfl) rfl ⟨Nat.zero_le _, Nat.zero_le _⟩ hO dX10_melt_1 ?_
  refine zY.if_ne (tgt := 9) zr_b hO dX10_melt_4 (by decide) (fun c4 => ?_) (fun c4 => ?_)
  ·
    replace c4 := zb1.mp c4
    refine zY.aload_n hO dX10_melt_9 rfl ?_
    refine zY.iconst hO dX10_melt_10 ?_
    refine zY.callV1iD (ct_X10_faultAs hX (by decide) (by decide)) (by decide) zcal_X10_faultAs zml_X10_85 (by decide : 0 < 150) rfl rfl (Nat.le_of_ble_eq_true rfl) rfl ⟨Nat.zero_le _, Nat.zero_le _⟩ hO dX10_melt_11 ?_
    refine zY.bipush hO dX10_melt_14 (by decide) ?_
    refine zY.icmp_eq (tgt := 22) (zflt_b hX.1 2) ⟨by omega, by omega⟩ hO dX10_melt_16 (by decide) (fun c16 => ?_) (fun c16 => ?_)
    ·
      have hOq := zOrd_of c16
      refine zY.aload_n hO dX10_melt_22 rfl ?_
      refine zY.getR zfl_X10_52 (by decide : 0 < 150) rfl rfl hO dX10_melt_23 ?_
      refine zY.aload_n hO dX10_melt_26 rfl ?_
      refine zY.getR zfl_X10_10 (by decide : 0 < 150) rfl rfl hO dX10_melt_27 ?_
      refine zY.aload_n hO dX10_melt_30 rfl ?_
      refine zY.getR zfl_X10_19 (by decide : 0 < 150) rfl rfl hO dX10_melt_31 ?_
      refine zY.callV2v (ct_X8_load hX hOq) (by decide) zcal_X8_load zml_X10_140 (by decide : 77 < 150) rfl rfl (Nat.le_of_ble_eq_true rfl) rfl ⟨Nat.zero_le _, Nat.zero_le _⟩ hO dX10_melt_34 (fun μ1 hq1 => ?_)
      obtain ⟨hw1, h01, hsm1⟩ := hq1
      refine zY.aload_n hO dX10_melt_37 rfl ?_
      refine zY.getR zfl_X10_52 (by decide : 0 < 150) rfl rfl hO dX10_melt_38 ?_
      refine zY.callV0i (ct_X8_meltingPlace hX.1 hOq hw1 h01) (by decide) zcal_X8_meltingPlace zml_X10_185 (by decide : 77 < 150) rfl rfl (Nat.le_of_ble_eq_true rfl) rfl ⟨Nat.zero_le _, Nat.zero_le _⟩ hO dX10_melt_41 (fun aq μ3 hq4 => ?_)
      obtain ⟨rfl, hmq, hw3, hsm3⟩ := hq4
      have hmb := zmpr_b D (zN D + 1) 0
      rw [show zmpr D (zN D + 1) 0 = zmp D from rfl] at hmb
      have hNn := hOq.1
      refine zY.istore2 (zc1_I _) hO dX10_melt_44 ?_
      refine zY.iload_n hO dX10_melt_45 rfl ?_
      refine zY.if_lt (tgt := 55) hx hO dX10_melt_46 (by decide) (fun c46 => ?_) (fun c46 => ?_)
      ·
        refine zY.iload_n hO dX10_melt_55 rfl ?_
        refine zY.goto (tgt := 67) hO dX10_melt_56 (by decide) ?_
        exact zY.iret rfl ⟨_, rfl, ⟨by unfold zA_melt; rw [if_pos c4, if_pos c16, if_pos (by omega)], hsm1.trans hsm3⟩⟩ hR hO dX10_melt_67
      ·
        refine zY.iload_n hO dX10_melt_49 rfl ?_
        refine zY.bipush hO dX10_melt_50 (by decide) ?_
        refine zY.icmp_ne (tgt := 59) ⟨by omega, by omega⟩ ⟨by omega, by omega⟩ hO dX10_melt_52 (by decide) (fun c52 => ?_) (fun c52 => ?_)
        ·
          refine zY.aload_n hO dX10_melt_59 rfl ?_
          refine zY.getR zfl_X10_52 (by decide : 0 < 150) rfl rfl hO dX10_melt_60 ?_
          refine zY.iload_n hO dX10_melt_63 rfl ?_
          obtain ⟨xq, hxq⟩ : ∃ xq : Nat, x = (xq : Int) := ⟨x.toNat, by omega⟩
          obtain ⟨pq, hpq⟩ : ∃ pq : Nat, zmp D = (pq : Int) := ⟨(zmp D).toNat, by omega⟩
          refine zY.as hxq ?_
          refine zY.callV1iD (ct_X8_newOf hX.1 hOq hw3 (a := pq) (x := xq) (by omega) (hmq pq hpq)) (by decide) zcal_X8_newOf zml_X10_188 (by decide : 77 < 150) rfl rfl (Nat.le_of_ble_eq_true rfl) rfl ⟨Nat.zero_le _, Nat.zero_le _⟩ hO dX10_melt_64 ?_
          exact zY.iret rfl ⟨_, rfl, ⟨by unfold zA_melt; rw [if_pos c4, if_pos c16, if_neg (show ¬ (x < 0 ∨ zmp D = -6) by omega), hpq, Int.toNat_natCast, hxq, Int.toNat_natCast]; by_cases e : xq = 0; (· rw [if_pos e, if_pos (show (xq : Int) = 0 by omega)]); (· rw [if_neg e, if_neg (show ¬ (xq : Int) = 0 by omega)]), hsm1.trans hsm3⟩⟩ hR hO dX10_melt_67
        ·
          refine zY.iload_n hO dX10_melt_55 rfl ?_
          refine zY.goto (tgt := 67) hO dX10_melt_56 (by decide) ?_
          exact zY.iret rfl ⟨_, rfl, ⟨by unfold zA_melt; rw [if_pos c4, if_pos c16, if_pos (by omega)], hsm1.trans hsm3⟩⟩ hR hO dX10_melt_67
    ·
      refine zY.bipush hO dX10_melt_19 (by decide) ?_
      exact zY.iret rfl ⟨_, rfl, ⟨by unfold zA_melt; rw [if_pos c4, if_neg c16], zSame.rfl'⟩⟩ hR hO dX10_melt_21
  ·
    replace c4 := zb0.mp c4
    refine zY.iconst hO dX10_melt_7 ?_
    exact zY.iret rfl ⟨_, rfl, ⟨by unfold zA_melt; rw [if_neg c4], zSame.rfl'⟩⟩ hR hO dX10_melt_8
