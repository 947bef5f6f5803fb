/-! the model: melt -/
theorem zgn_le {D : zBk} (hW : zWF D) (hOq : zOrd D) (a x : Nat) : ∀ i, i ≤ zN D → zgn D a i x ≤ zwd D a i x
  | 0, _ => by simp [zgn, zwd]
  | i + 1, h => by
    have ih := zgn_le hW hOq a x i (by omega)
    have ho := hOq.2.1 i (by omega)
    have hbk := zbk_b 0 hW ho.2.1 ho.2.2
    rw [← zbx_0 ho.2.2] at hbk
    have hnb := znd_b (ch := 0) x hW ho.2.1
    simp only [zgn, zwd]
    by_cases e : a ≤ i
    · rw [if_pos e]
      by_cases e2 : zbx D (zord D i) 0 = (x : Int)
      · rw [if_pos ⟨e, e2⟩]
        have h3 := hbk.2.2
        rw [e2, Int.toNat_natCast] at h3
        omega
      · rw [if_neg (fun z => e2 z.2)]
        omega
    · rw [if_neg e, if_neg (fun z => e z.1)]
      omega
theorem zjpn_s {D : zBk} {i : Nat} (h : zjpn D i = -6) : (zjpn D (i + 1) = -6 ↔ zlks D i = -6) := by
  have h0 := zfst_none (fun k => decide (zlks D k ≠ -6)) i 0 h
  constructor
  · intro h1
    have h2 := zfst_none (fun k => decide (zlks D k ≠ -6)) (i + 1) 0 h1 i (by omega) (by omega)
    rw [decide_eq_true_eq] at h2
    exact Decidable.not_not.mp h2
  · intro h1
    refine zfst_no (fun j hj => ?_)
    by_cases e : j = i
    · subst e; rw [decide_eq_true_eq]; exact fun z => z h1
    · exact h0 j (by omega) (by omega)
theorem zlks_0 {D : zBk} {i : Nat} : zlks D i = -6 ↔ zlk (znd D (zord D i) 0) (zwk D i) = 0 := by
  have h := zfst_0 (A := znd D (zord D i) 0) (F := zwk D i)
  rw [zlks_eq] at h
  have hb := zlks_b D i
  omega

set_option maxRecDepth 100000 in
set_option maxHeartbeats 4000000 in
theorem ct_X11_findWanted {μ : zMem} {D : zBk} {K0 K1 : Option zBk} (hM : zMd D K0 K1 μ) (hOq : zOrd D) {p : Nat} (hp : p ≤ zN D) : Cv kX11_findWanted 4 150 zSX [zP 127, zI (p : Int)] μ (fun μ' => zScr μ μ' ∧ ∀ x, x < 6 → μ' 146 x = zwnt D p x) := by
  refine Ct.of [some (zP 127), some (zI (p : Int)), none, none, none] rfl (Nat.le_of_ble_eq_true rfl) (by decide +kernel) (fun Γ ad hO hR => ?_)
  have hn := zN_eq hM.1
  have hpm := hM.2.2.1.2.trans hn.1
  have hNn := hOq.1
  refine zY.iconst hO dX11_findWanted_0 ?_
  refine zY.istore2 (zc1_I _) hO dX11_findWanted_1 ?_
  have L2 : ∀ i : Nat, i ≤ 6 → ∀ μ1 : zMem, zScr μ μ1 → (∀ x, x < i → μ1 146 x = 0 ∧ μ1 147 x = 0) → zY Γ (150, zSX, ad, 0, 0) 2 [some (zP 127), some (zI (p : Int)), some (zI (i : Int)), none, none] [] μ1 := by
    refine zdown (6) (fun i hi_i ih2 => ?_)
    intro μ1 hsc hJ
    refine zY.iload_n hO dX11_findWanted_2 rfl ?_
    refine zY.bipush hO dX11_findWanted_3 (by decide) ?_
    refine zY.icmp_ge (tgt := 28) ⟨by omega, by omega⟩ ⟨by omega, by omega⟩ hO dX11_findWanted_5 (by decide) (fun c5 => ?_) (fun c5 => ?_)
    ·
      have hz6 : ∀ x, x < 6 → μ1 146 x = 0 ∧ μ1 147 x = 0 := fun x hx => hJ x (by omega)
      clear hJ ih2
      refine zY.iload_n hO dX11_findWanted_28 rfl ?_
      refine zY.istore2 (zc1_I _) hO dX11_findWanted_29 ?_
      have L30 : ∀ i : Nat, i ≤ zN D → ∀ μ1 : zMem, zScr μ μ1 → (∀ y, y < 6 → μ1 146 y = zwd D p i y ∧ μ1 147 y = zgn D p i y) → p ≤ i → zY Γ (150, zSX, ad, 0, 0) 30 [some (zP 127), some (zI (p : Int)), some (zI (i : Int)), none, none] [] μ1 := by
        refine zdown (zN D) (fun i hi_i ih30 => ?_)
        intro μ1 hsc hJ hpi
        have hMi := hsc.md hM
        refine zY.iload_n hO dX11_findWanted_30 rfl ?_
        refine zY.aload_n hO dX11_findWanted_31 rfl ?_
        refine zY.getI zfl_X11_93 (by decide : 127 < 150) rfl rfl hO dX11_findWanted_32 ?_
        refine zY.as (b := (zN D : Int)) (hMi.2.2.1.2.trans hn.1) ?_
        refine zY.icmp_ge (tgt := 143) ⟨by omega, by omega⟩ ⟨by omega, by omega⟩ hO dX11_findWanted_35 (by decide) (fun c35 => ?_) (fun c35 => ?_)
        ·
          exact zY.vret rfl ⟨rfl, ⟨hsc, fun x hx => by rw [(hJ x hx).1, show i = zN D by omega]; rfl⟩⟩ hR hO dX11_findWanted_143
        ·
          have ho := hOq.2.1 i (by omega)
          refine zY.aload_n hO dX11_findWanted_38 rfl ?_
          refine zY.aload_n hO dX11_findWanted_39 rfl ?_
          refine zY.iload_n hO dX11_findWanted_40 rfl ?_
          refine zY.callV1iD (ct_X11_sheetAt hMi (i := i) (by omega)) (by decide) zcal_X11_sheetAt zml_X11_171 (by decide : 127 < 150) rfl rfl (Nat.le_of_ble_eq_true rfl) rfl ⟨Nat.zero_le _, Nat.zero_le _⟩ hO dX11_findWanted_41 ?_
          refine zY.as (b := (zord D i : Int)) (by omega) ?_
          refine zY.iconst hO dX11_findWanted_44 ?_
          refine zY.callV2v (ct_X11_findNeeds (ch := 0) hMi ho.2.1 (by omega) (zokc_0 D _)) (by decide) zcal_X11_findNeeds zml_X11_149 (by decide : 127 < 150) rfl rfl (Nat.le_of_ble_eq_true rfl) rfl ⟨Nat.zero_le _, Nat.zero_le _⟩ hO dX11_findWanted_45 (fun μ3 hq3 => ?_)
          obtain ⟨nq, hq3, hq4⟩ := hq3
          have hs3 : zScr μ μ3 := by rw [hq3]; exact hsc.row (by decide) (by decide)
          have hn3 : ∀ y, y < 6 → μ3 137 y = znd D (zord D i) 0 y := fun y hy => by rw [hq3, zrow_eq]; exact hq4 y hy
          have hw3 : ∀ y, y < 6 → μ3 146 y = zwd D p i y ∧ μ3 147 y = zgn D p i y := fun y hy => by rw [hq3, zrow_ne (by decide), zrow_ne (by decide)]; exact hJ y hy
          refine zY.iconst hO dX11_findWanted_48 ?_
          refine zY.istore3 (zc1_I _) hO dX11_findWanted_49 ?_
          have L50 : ∀ j : Nat, j ≤ 6 → ∀ μ2 : zMem, zScr μ μ2 → (∀ y, y < 6 → μ2 137 y = znd D (zord D i) 0 y) → (∀ y, y < 6 → μ2 147 y = zgn D p i y) → (∀ y, y < 6 → μ2 146 y = if y < j then zwd D p (i + 1) y else zwd D p i y) → zY Γ (150, zSX, ad, 0, 0) 50 [some (zP 127), some (zI (p : Int)), some (zI (i : Int)), some (zI (j : Int)), none] [] μ2 := by
            refine zdown (6) (fun j hi_j ih50 => ?_)
            intro μ2 hsc2 hn2 hg2 hw2
            have hnb := znd_b (ch := 0) j hM.1 ho.2.1
            have hgb := zgn_b D p j i
            have hwb := zwd_b hM.1 p (x := j) i (fun j hj => (hOq.2.1 j (by omega)).2.1)
            have hle := zgn_le hM.1 hOq p j i (by omega)
            refine zY.iload_n hO dX11_findWanted_50 rfl ?_
            refine zY.bipush hO dX11_findWanted_51 (by decide) ?_
            refine zY.icmp_ge (tgt := 118) ⟨by omega, by omega⟩ ⟨by omega, by omega⟩ hO dX11_findWanted_53 (by decide) (fun c53 => ?_) (fun c53 => ?_)
            ·
              have hbk := zbk_b 0 hM.1 ho.2.1 ho.2.2
              obtain ⟨bq, hbq⟩ : ∃ bq : Nat, zbk D (zord D i) 0 = (bq : Int) := ⟨(zbk D (zord D i) 0).toNat, by omega⟩
              have hbx : zbx D (zord D i) 0 = (bq : Int) := (zbx_0 ho.2.2).trans hbq
              have hM2 := hsc2.md hM
              refine zY.aload_n hO dX11_findWanted_118 rfl ?_
              refine zY.getR zfl_X11_67 (by decide : 127 < 150) rfl rfl hO dX11_findWanted_119 ?_
              refine zY.aload_n hO dX11_findWanted_122 rfl ?_
              refine zY.aload_n hO dX11_findWanted_123 rfl ?_
              refine zY.iload_n hO dX11_findWanted_124 rfl ?_
              refine zY.callV1iD (ct_X11_sheetAt hM2 (i := i) (by omega)) (by decide) zcal_X11_sheetAt zml_X11_171 (by decide : 127 < 150) rfl rfl (Nat.le_of_ble_eq_true rfl) rfl ⟨Nat.zero_le _, Nat.zero_le _⟩ hO dX11_findWanted_125 ?_
              refine zY.as (b := (zord D i : Int)) (by omega) ?_
              refine zY.iconst hO dX11_findWanted_128 ?_
              refine zY.callV2iD (ct_X11_breaksBy (ch := 0) hM2 ho.2.1 (by omega) (zokc_0 D _) ho.2.2 hn2) (by decide) zcal_X11_breaksBy zml_X11_152 (by decide : 127 < 150) rfl rfl (Nat.le_of_ble_eq_true rfl) rfl ⟨Nat.zero_le _, Nat.zero_le _⟩ hO dX11_findWanted_129 ?_
              refine zY.as hbq ?_
              refine zY.dup2 rfl rfl hO dX11_findWanted_132 ?_
              refine zY.iald (bq) rfl (by omega) (by decide) (by decide : 147 < 150) rfl hO dX11_findWanted_133 ?_
              refine zY.iconst hO dX11_findWanted_134 ?_
              refine zY.iadd hO dX11_findWanted_135 ?_
              refine zY.iast (bq) rfl (by omega) (by decide) (by decide : 147 < 150) rfl hO dX11_findWanted_136 ?_
              refine zY.iinc2 _ rfl (zc1_I _) hO dX11_findWanted_137 ?_
              refine zY.goto (tgt := 30) hO dX11_findWanted_140 (by decide) ?_
              refine zY.none3 ?_
              refine ih30 (by omega) _ (hsc2.wr (by decide) (by decide)) (fun y hy => ⟨by rw [zwr_ne (by decide), hw2 y hy, if_pos (by omega)], ?_⟩) (by omega)
              simp only [zwr, zgn]
              rw [hbx]
              by_cases e : y = bq
              · rw [if_pos trivial, if_pos e, if_pos ⟨hpi, by omega⟩, hg2 bq (by omega), e]
              · rw [if_pos trivial, if_neg e, if_neg (fun z => by omega), hg2 y hy]
                omega
            ·
              refine zY.aload_n hO dX11_findWanted_56 rfl ?_
              refine zY.getR zfl_X11_37 (by decide : 127 < 150) rfl rfl hO dX11_findWanted_57 ?_
              refine zY.iload_n hO dX11_findWanted_60 rfl ?_
              refine zY.iald (j) rfl (by omega) (by decide) (by decide : 137 < 150) rfl hO dX11_findWanted_61 ?_
              refine zY.as (b := znd D (zord D i) 0 j) (hn2 j (by omega)) ?_
              refine zY.if_le (tgt := 81) ⟨by omega, by omega⟩ hO dX11_findWanted_62 (by decide) (fun c62 => ?_) (fun c62 => ?_)
              ·
                refine zY.iconst hO dX11_findWanted_81 ?_
                refine zY.istore4 (zc1_I _) hO dX11_findWanted_82 ?_
                refine zY.aload_n hO dX11_findWanted_84 rfl ?_
                refine zY.getR zfl_X11_64 (by decide : 127 < 150) rfl rfl hO dX11_findWanted_85 ?_
                refine zY.iload_n hO dX11_findWanted_88 rfl ?_
                refine zY.iload hO dX11_findWanted_89 rfl ?_
                refine zY.aload_n hO dX11_findWanted_91 rfl ?_
                refine zY.getR zfl_X11_64 (by decide : 127 < 150) rfl rfl hO dX11_findWanted_92 ?_
                refine zY.iload_n hO dX11_findWanted_95 rfl ?_
                refine zY.iald (j) rfl (by omega) (by decide) (by decide : 146 < 150) rfl hO dX11_findWanted_96 ?_
                refine zY.as (b := zwd D p i j) (by rw [hw2 j (by omega), if_neg (by omega)]) ?_
                refine zY.icmp_le (tgt := 105) ⟨by omega, by omega⟩ ⟨by omega, by omega⟩ hO dX11_findWanted_97 (by decide) (fun c97 => ?_) (fun c97 => ?_)
                ·
                  refine zY.aload_n hO dX11_findWanted_105 rfl ?_
                  refine zY.getR zfl_X11_64 (by decide : 127 < 150) rfl rfl hO dX11_findWanted_106 ?_
                  refine zY.iload_n hO dX11_findWanted_109 rfl ?_
                  refine zY.iald (j) rfl (by omega) (by decide) (by decide : 146 < 150) rfl hO dX11_findWanted_110 ?_
                  refine zY.as (b := zwd D p i j) (by rw [hw2 j (by omega), if_neg (by omega)]) ?_
                  refine zY.as (b := zwd D p (i + 1) j) (by simp only [zwd]; rw [if_pos hpi]; omega) ?_
                  refine zY.iast (j) rfl (by omega) (by decide) (by decide : 146 < 150) rfl hO dX11_findWanted_111 ?_
                  refine zY.iinc3 _ rfl (zc1_I _) hO dX11_findWanted_112 ?_
                  refine zY.goto (tgt := 50) hO dX11_findWanted_115 (by decide) ?_
                  refine zY.none4 ?_
                  refine ih50 (by omega) _ (hsc2.wr (by decide) (by decide)) (fun y hy => by rw [zwr_ne (by decide)]; exact hn2 y hy) (fun y hy => by rw [zwr_ne (by decide)]; exact hg2 y hy) (fun y hy => ?_)
                  simp only [zwr]
                  by_cases e : y = j
                  · rw [if_pos trivial, if_pos e, if_pos (by omega), e]
                  · rw [if_pos trivial, if_neg e, hw2 y hy]
                    by_cases e2 : y < j
                    · rw [if_pos e2, if_pos (by omega)]
                    · rw [if_neg e2, if_neg (by omega)]
                ·
                  refine zY.iload hO dX11_findWanted_100 rfl ?_
                  refine zY.goto (tgt := 111) hO dX11_findWanted_102 (by decide) ?_
                  refine zY.as (b := zwd D p (i + 1) j) (by simp only [zwd]; rw [if_pos hpi]; omega) ?_
                  refine zY.iast (j) rfl (by omega) (by decide) (by decide : 146 < 150) rfl hO dX11_findWanted_111 ?_
                  refine zY.iinc3 _ rfl (zc1_I _) hO dX11_findWanted_112 ?_
                  refine zY.goto (tgt := 50) hO dX11_findWanted_115 (by decide) ?_
                  refine zY.none4 ?_
                  refine ih50 (by omega) _ (hsc2.wr (by decide) (by decide)) (fun y hy => by rw [zwr_ne (by decide)]; exact hn2 y hy) (fun y hy => by rw [zwr_ne (by decide)]; exact hg2 y hy) (fun y hy => ?_)
                  simp only [zwr]
                  by_cases e : y = j
                  · rw [if_pos trivial, if_pos e, if_pos (by omega), e]
                  · rw [if_pos trivial, if_neg e, hw2 y hy]
                    by_cases e2 : y < j
                    · rw [if_pos e2, if_pos (by omega)]
                    · rw [if_neg e2, if_neg (by omega)]
              ·
                refine zY.aload_n hO dX11_findWanted_65 rfl ?_
                refine zY.getR zfl_X11_37 (by decide : 127 < 150) rfl rfl hO dX11_findWanted_66 ?_
                refine zY.iload_n hO dX11_findWanted_69 rfl ?_
                refine zY.iald (j) rfl (by omega) (by decide) (by decide : 137 < 150) rfl hO dX11_findWanted_70 ?_
                refine zY.as (b := znd D (zord D i) 0 j) (hn2 j (by omega)) ?_
                refine zY.aload_n hO dX11_findWanted_71 rfl ?_
                refine zY.getR zfl_X11_67 (by decide : 127 < 150) rfl rfl hO dX11_findWanted_72 ?_
                refine zY.iload_n hO dX11_findWanted_75 rfl ?_
                refine zY.iald (j) rfl (by omega) (by decide) (by decide : 147 < 150) rfl hO dX11_findWanted_76 ?_
                refine zY.as (b := zgn D p i j) (hg2 j (by omega)) ?_
                refine zY.iadd hO dX11_findWanted_77 ?_
                refine zY.goto (tgt := 82) hO dX11_findWanted_78 (by decide) ?_
                refine zY.istore4 (zc1_I _) hO dX11_findWanted_82 ?_
                refine zY.aload_n hO dX11_findWanted_84 rfl ?_
                refine zY.getR zfl_X11_64 (by decide : 127 < 150) rfl rfl hO dX11_findWanted_85 ?_
                refine zY.iload_n hO dX11_findWanted_88 rfl ?_
                refine zY.iload hO dX11_findWanted_89 rfl ?_
                refine zY.aload_n hO dX11_findWanted_91 rfl ?_
                refine zY.getR zfl_X11_64 (by decide : 127 < 150) rfl rfl hO dX11_findWanted_92 ?_
                refine zY.iload_n hO dX11_findWanted_95 rfl ?_
                refine zY.iald (j) rfl (by omega) (by decide) (by decide : 146 < 150) rfl hO dX11_findWanted_96 ?_
                refine zY.as (b := zwd D p i j) (by rw [hw2 j (by omega), if_neg (by omega)]) ?_
                refine zY.icmp_le (tgt := 105) ⟨by omega, by omega⟩ ⟨by omega, by omega⟩ hO dX11_findWanted_97 (by decide) (fun c97 => ?_) (fun c97 => ?_)
                ·
                  refine zY.aload_n hO dX11_findWanted_105 rfl ?_
                  refine zY.getR zfl_X11_64 (by decide : 127 < 150) rfl rfl hO dX11_findWanted_106 ?_
                  refine zY.iload_n hO dX11_findWanted_109 rfl ?_
                  refine zY.iald (j) rfl (by omega) (by decide) (by decide : 146 < 150) rfl hO dX11_findWanted_110 ?_
                  refine zY.as (b := zwd D p i j) (by rw [hw2 j (by omega), if_neg (by omega)]) ?_
                  refine zY.as (b := zwd D p (i + 1) j) (by simp only [zwd]; rw [if_pos hpi]; omega) ?_
                  refine zY.iast (j) rfl (by omega) (by decide) (by decide : 146 < 150) rfl hO dX11_findWanted_111 ?_
                  refine zY.iinc3 _ rfl (zc1_I _) hO dX11_findWanted_112 ?_
                  refine zY.goto (tgt := 50) hO dX11_findWanted_115 (by decide) ?_
                  refine zY.none4 ?_
                  refine ih50 (by omega) _ (hsc2.wr (by decide) (by decide)) (fun y hy => by rw [zwr_ne (by decide)]; exact hn2 y hy) (fun y hy => by rw [zwr_ne (by decide)]; exact hg2 y hy) (fun y hy => ?_)
                  simp only [zwr]
                  by_cases e : y = j
                  · rw [if_pos trivial, if_pos e, if_pos (by omega), e]
                  · rw [if_pos trivial, if_neg e, hw2 y hy]
                    by_cases e2 : y < j
                    · rw [if_pos e2, if_pos (by omega)]
                    · rw [if_neg e2, if_neg (by omega)]
                ·
                  refine zY.iload hO dX11_findWanted_100 rfl ?_
                  refine zY.goto (tgt := 111) hO dX11_findWanted_102 (by decide) ?_
                  refine zY.as (b := zwd D p (i + 1) j) (by simp only [zwd]; rw [if_pos hpi]; omega) ?_
                  refine zY.iast (j) rfl (by omega) (by decide) (by decide : 146 < 150) rfl hO dX11_findWanted_111 ?_
                  refine zY.iinc3 _ rfl (zc1_I _) hO dX11_findWanted_112 ?_
                  refine zY.goto (tgt := 50) hO dX11_findWanted_115 (by decide) ?_
                  refine zY.none4 ?_
                  refine ih50 (by omega) _ (hsc2.wr (by decide) (by decide)) (fun y hy => by rw [zwr_ne (by decide)]; exact hn2 y hy) (fun y hy => by rw [zwr_ne (by decide)]; exact hg2 y hy) (fun y hy => ?_)
                  simp only [zwr]
                  by_cases e : y = j
                  · rw [if_pos trivial, if_pos e, if_pos (by omega), e]
                  · rw [if_pos trivial, if_neg e, hw2 y hy]
                    by_cases e2 : y < j
                    · rw [if_pos e2, if_pos (by omega)]
                    · rw [if_neg e2, if_neg (by omega)]
          exact L50 0 (by omega) μ3 hs3 hn3 (fun y hy => (hw3 y hy).2) (fun y hy => by rw [if_neg (by omega)]; exact (hw3 y hy).1)
      exact L30 p hp μ1 hsc (fun y hy => by rw [zwd_lo y p (Nat.le_refl p), zgn_lo y p (Nat.le_refl p)]; exact hz6 y hy) (Nat.le_refl p)
    ·
      refine zY.aload_n hO dX11_findWanted_8 rfl ?_
      refine zY.getR zfl_X11_64 (by decide : 127 < 150) rfl rfl hO dX11_findWanted_9 ?_
      refine zY.iload_n hO dX11_findWanted_12 rfl ?_
      refine zY.iconst hO dX11_findWanted_13 ?_
      refine zY.iast (i) rfl (by omega) (by decide) (by decide : 146 < 150) rfl hO dX11_findWanted_14 ?_
      refine zY.aload_n hO dX11_findWanted_15 rfl ?_
      refine zY.getR zfl_X11_67 (by decide : 127 < 150) rfl rfl hO dX11_findWanted_16 ?_
      refine zY.iload_n hO dX11_findWanted_19 rfl ?_
      refine zY.iconst hO dX11_findWanted_20 ?_
      refine zY.iast (i) rfl (by omega) (by decide) (by decide : 147 < 150) rfl hO dX11_findWanted_21 ?_
      refine zY.iinc2 _ rfl (zc1_I _) hO dX11_findWanted_22 ?_
      refine zY.goto (tgt := 2) hO dX11_findWanted_25 (by decide) ?_
      exact ih2 (by omega) _ ((hsc.wr (by decide) (by decide)).wr (by decide) (by decide)) (fun x hx => by
        by_cases e : x = i
        · subst e; simp [zwr]
        · simp [zwr, e]; exact hJ x (by omega))
  exact L2 0 (by omega) μ zScr.rfl' (fun x h => by omega)

set_option maxRecDepth 100000 in
set_option maxHeartbeats 4000000 in
theorem ct_X11_melt {μ : zMem} {D : zBk} {K0 K1 : Option zBk} (hM : zMd D K0 K1 μ) {x : Int} (hx : zr x) : Ci kX11_melt 6 150 zSX [zP 127, zI x] μ (fun a μ' => a = zA_melt D x ∧ zScr μ μ') := by
  refine Ct.of [some (zP 127), some (zI x), none, none, none, none] rfl (Nat.le_of_ble_eq_true rfl) (by decide +kernel) (fun Γ ad hO hR => ?_)
  refine zY.iload_n hO dX11_melt_0 rfl ?_
  refine zY.iconst hO dX11_melt_1 ?_
  refine zY.icmp_eq (tgt := 14) hx ⟨by omega, by omega⟩ hO dX11_melt_2 (by decide) (fun c2 => ?_) (fun c2 => ?_)
  ·
    have hxr : -1 ≤ x ∧ x ≤ 5 := by omega
    refine zY.aload_n hO dX11_melt_14 rfl ?_
    refine zY.iconst hO dX11_melt_15 ?_
    refine zY.callV1iD (ct_X11_fault hM ⟨by omega, by omega⟩) (by decide) zcal_X11_fault zml_X11_116 (by decide : 127 < 150) rfl rfl (Nat.le_of_ble_eq_true rfl) rfl ⟨Nat.zero_le _, Nat.zero_le _⟩ hO dX11_melt_16 ?_
    have hfn := zflt_n hM.1 2 (by omega) (by omega)
    refine zY.if_lt (tgt := 25) (zflt_b hM.1 2) hO dX11_melt_19 (by decide) (fun c19 => ?_) (fun c19 => ?_)
    ·
      have hz2 : zflt D 2 = -6 := by omega
      have hOq := zOrd_of hz2
      have hn := zN_eq hM.1
      have hpm := hM.2.2.1.2.trans hn.1
      have hNn := hOq.1
      have hd5 := zD5_b hM.1
      refine zY.iconst hO dX11_melt_25 ?_
      refine zY.istore2 (zc1_I _) hO dX11_melt_26 ?_
      refine zY.iconst hO dX11_melt_27 ?_
      refine zY.istore3 (zc1_I _) hO dX11_melt_28 ?_
      have L29 : ∀ i : Nat, i ≤ 6 → zY Γ (150, zSX, ad, 0, 0) 29 [some (zP 127), some (zI x), some (zI (zsum (D 5) i)), some (zI (i : Int)), none, none] [] μ := by
        refine zdown (6) (fun i hi_i ih29 => ?_)
        refine zY.iload_n hO dX11_melt_29 rfl ?_
        refine zY.bipush hO dX11_melt_30 (by decide) ?_
        refine zY.icmp_ge (tgt := 50) ⟨by omega, by omega⟩ ⟨by omega, by omega⟩ hO dX11_melt_32 (by decide) (fun c32 => ?_) (fun c32 => ?_)
        ·
          have hi6 : i = 6 := by omega
          subst hi6
          clear ih29
          refine zY.iconst hO dX11_melt_50 ?_
          refine zY.istore3 (zc1_I _) hO dX11_melt_51 ?_
          have L52 : ∀ i : Nat, i ≤ zN D + 1 → ∀ μ1 : zMem, zScr μ μ1 → zmp D = (if zjpn D i = -6 then zmpr D (zN D + 1 - i) i else -6) → zY Γ (150, zSX, ad, 0, 0) 52 [some (zP 127), some (zI x), some (zI (zsum (D 5) 6)), some (zI (i : Int)), none, none] [] μ1 := by
            refine zdown (zN D + 1) (fun i hi_i ih52 => ?_)
            intro μ1 hsc hV
            have hMi := hsc.md hM
            refine zY.iload_n hO dX11_melt_52 rfl ?_
            refine zY.aload_n hO dX11_melt_53 rfl ?_
            refine zY.getI zfl_X11_93 (by decide : 127 < 150) rfl rfl hO dX11_melt_54 ?_
            refine zY.as (b := (zN D : Int)) (hMi.2.2.1.2.trans hn.1) ?_
            refine zY.icmp_gt (tgt := 157) ⟨by omega, by omega⟩ ⟨by omega, by omega⟩ hO dX11_melt_57 (by decide) (fun c57 => ?_) (fun c57 => ?_)
            ·
              refine zY.bipush hO dX11_melt_157 (by decide) ?_
              exact zY.iret rfl ⟨_, rfl, ⟨by unfold zA_melt; rw [if_pos hxr, if_pos hz2, if_pos (Or.inr (by rw [hV, show zN D + 1 - i = 0 by omega]; split <;> rfl)), hV, show zN D + 1 - i = 0 by omega]; split <;> rfl, hsc⟩⟩ hR hO dX11_melt_159
            ·
              refine zY.aload_n hO dX11_melt_60 rfl ?_
              refine zY.iload_n hO dX11_melt_61 rfl ?_
              refine zY.callV1v (ct_X11_judgeAll hMi hOq (many := i) (by omega)) (by decide) zcal_X11_judgeAll zml_X11_183 (by decide : 127 < 150) rfl rfl (Nat.le_of_ble_eq_true rfl) rfl ⟨Nat.zero_le _, Nat.zero_le _⟩ hO dX11_melt_62 (fun μ2 hq2 => ?_)
              obtain ⟨hs2, hJd⟩ := hq2
              have hsc2 := hsc.trans hs2
              have hM2 := hsc2.md hM
              have hjb : (zjpn D i = -6 ∧ μ2 127 14 = -6) ∨ (∃ p : Nat, p < i ∧ zjpn D i = (p : Int) ∧ μ2 127 14 = (p : Int)) := by
                rcases hJd with h | ⟨p, h0, h1, h2, h3⟩
                · exact Or.inl ⟨h.1, h.2.1⟩
                · exact Or.inr ⟨p, h0, h1, h2⟩
              refine zY.aload_n hO dX11_melt_65 rfl ?_
              refine zY.getI zfl_X11_159 (by decide : 127 < 150) rfl rfl hO dX11_melt_66 ?_
              refine zY.if_lt (tgt := 75) ⟨by rcases hjb with h | ⟨p, h0, h1, h2⟩ <;> omega, by rcases hjb with h | ⟨p, h0, h1, h2⟩ <;> omega⟩ hO dX11_melt_69 (by decide) (fun c69 => ?_) (fun c69 => ?_)
              ·
                have hj6 : zjpn D i = -6 := by rcases hjb with h | ⟨p, h0, h1, h2⟩ <;> omega
                refine zY.aload_n hO dX11_melt_75 rfl ?_
                refine zY.iload_n hO dX11_melt_76 rfl ?_
                refine zY.callV1v (ct_X11_findWanted hM2 hOq (p := i) (by omega)) (by decide) zcal_X11_findWanted zml_X11_243 (by decide : 127 < 150) rfl rfl (Nat.le_of_ble_eq_true rfl) rfl ⟨Nat.zero_le _, Nat.zero_le _⟩ hO dX11_melt_77 (fun μ3 hq3 => ?_)
                obtain ⟨hs3, hw3⟩ := hq3
                have hsc3 := hsc2.trans hs3
                rw [if_pos hj6] at hV
                have hwb := zwns_b hM.1 hOq i
                have hV2 : zmp D = if zsum (zwnt D i) 6 ≤ zsum (D 5) 6 then (i : Int) else if 0 < zlk (znd D (zord D i) 0) (zwk D i) then -6 else zmpr D (zN D - i) (i + 1) := by rw [hV, show zN D + 1 - i = (zN D - i) + 1 by omega]; rfl
                refine zY.iconst hO dX11_melt_80 ?_
                refine zY.istore4 (zc1_I _) hO dX11_melt_81 ?_
                refine zY.iconst hO dX11_melt_83 ?_
                refine zY.istore5 (zc1_I _) hO dX11_melt_84 ?_
                have L86 : ∀ k : Nat, k ≤ 6 → zY Γ (150, zSX, ad, 0, 0) 86 [some (zP 127), some (zI x), some (zI (zsum (D 5) 6)), some (zI (i : Int)), some (zI (zsum (zwnt D i) k - zwnt D i 0)), some (zI (k : Int))] [] μ3 := by
                  refine zdown (6) (fun k hi_k ih86 => ?_)
                  refine zY.iload hO dX11_melt_86 rfl ?_
                  refine zY.bipush hO dX11_melt_88 (by decide) ?_
                  refine zY.icmp_ge (tgt := 111) ⟨by omega, by omega⟩ ⟨by omega, by omega⟩ hO dX11_melt_90 (by decide) (fun c90 => ?_) (fun c90 => ?_)
                  ·
                    have hk6 : k = 6 := by omega
                    subst hk6
                    refine zY.iload hO dX11_melt_111 rfl ?_
                    refine zY.aload_n hO dX11_melt_113 rfl ?_
                    refine zY.getR zfl_X11_64 (by decide : 127 < 150) rfl rfl hO dX11_melt_114 ?_
                    refine zY.iconst hO dX11_melt_117 ?_
                    refine zY.iald (0) rfl (by omega) (by decide) (by decide : 146 < 150) rfl hO dX11_melt_118 ?_
                    refine zY.as (b := zwnt D i 0) (hw3 0 (by omega)) ?_
                    refine zY.iadd hO dX11_melt_119 ?_
                    refine zY.as (b := zsum (zwnt D i) 6) (by omega) ?_
                    refine zY.iload_n hO dX11_melt_120 rfl ?_
                    refine zY.icmp_gt (tgt := 151) ⟨by omega, by omega⟩ ⟨by omega, by omega⟩ hO dX11_melt_121 (by decide) (fun c121 => ?_) (fun c121 => ?_)
                    ·
                      refine zY.iinc3 _ rfl (zc1_I _) hO dX11_melt_151 ?_
                      refine zY.goto (tgt := 52) hO dX11_melt_154 (by decide) ?_
                      refine zY.none4 ?_
                      refine zY.none5 ?_
                      have hiN : i < zN D := by
                        have hz := zwns_0 (D := D) (a := i)
                        omega
                      rw [if_neg (by omega)] at hV2
                      refine ih52 (by omega) μ3 hsc3 ?_
                      have h1q := zjpn_s hj6
                      have h2q := zlks_0 (D := D) (i := i)
                      have ho := hOq.2.1 i hiN
                      have hzk := zlk_b (A := znd D (zord D i) 0) (F := zwk D i) (fun x hx => by have h1q := znd_b (ch := 0) x hM.1 ho.2.1; have h2q := zwk_b hM.1 hx i; omega)
                      by_cases e : zlk (znd D (zord D i) 0) (zwk D i) = 0
                      · rw [if_pos (h1q.mpr (h2q.mpr e)), hV2, if_neg (by omega), show zN D + 1 - (i + 1) = zN D - i by omega]
                      · rw [if_neg (fun z => e (h2q.mp (h1q.mp z))), hV2, if_pos (by omega)]
                    ·
                      refine zY.iload_n hO dX11_melt_124 rfl ?_
                      refine zY.iconst hO dX11_melt_125 ?_
                      refine zY.icmp_ne (tgt := 133) hx ⟨by omega, by omega⟩ hO dX11_melt_126 (by decide) (fun c126 => ?_) (fun c126 => ?_)
                      ·
                        refine zY.iload_n hO dX11_melt_133 rfl ?_
                        refine zY.if_ne (tgt := 144) hx hO dX11_melt_134 (by decide) (fun c134 => ?_) (fun c134 => ?_)
                        ·
                          refine zY.aload_n hO dX11_melt_144 rfl ?_
                          refine zY.getR zfl_X11_64 (by decide : 127 < 150) rfl rfl hO dX11_melt_145 ?_
                          refine zY.iload_n hO dX11_melt_148 rfl ?_
                          refine zY.iald (x.toNat) (by omega) (by omega) (by decide) (by decide : 146 < 150) rfl hO dX11_melt_149 ?_
                          exact zY.iret rfl ⟨_, rfl, ⟨by rw [if_pos (by omega)] at hV2; unfold zA_melt; rw [if_pos hxr, if_pos hz2, if_neg (by omega), if_neg (show ¬ x = 0 by omega), hV2, Int.toNat_natCast]; exact hw3 _ (by omega), hsc3⟩⟩ hR hO dX11_melt_150
                        ·
                          refine zY.iload_n hO dX11_melt_137 rfl ?_
                          refine zY.iload hO dX11_melt_138 rfl ?_
                          refine zY.isub hO dX11_melt_140 ?_
                          refine zY.goto (tgt := 150) hO dX11_melt_141 (by decide) ?_
                          exact zY.iret rfl ⟨_, rfl, ⟨by rw [if_pos (by omega)] at hV2; unfold zA_melt; rw [if_pos hxr, if_pos hz2, if_neg (by omega), if_pos (show x = 0 by omega), hV2, Int.toNat_natCast]; omega, hsc3⟩⟩ hR hO dX11_melt_150
                      ·
                        refine zY.iload_n hO dX11_melt_129 rfl ?_
                        refine zY.goto (tgt := 150) hO dX11_melt_130 (by decide) ?_
                        exact zY.iret rfl ⟨_, rfl, ⟨by rw [if_pos (by omega)] at hV2; unfold zA_melt; rw [if_pos hxr, if_pos hz2, if_pos (Or.inl (by omega)), hV2], hsc3⟩⟩ hR hO dX11_melt_150
                  ·
                    refine zY.iload hO dX11_melt_93 rfl ?_
                    refine zY.aload_n hO dX11_melt_95 rfl ?_
                    refine zY.getR zfl_X11_64 (by decide : 127 < 150) rfl rfl hO dX11_melt_96 ?_
                    refine zY.iload hO dX11_melt_99 rfl ?_
                    refine zY.iald (k) rfl (by omega) (by decide) (by decide : 146 < 150) rfl hO dX11_melt_101 ?_
                    refine zY.as (b := zwnt D i k) (hw3 k (by omega)) ?_
                    refine zY.iadd hO dX11_melt_102 ?_
                    refine zY.as (b := zsum (zwnt D i) (k + 1) - zwnt D i 0) (by simp only [zsum]; omega) ?_
                    refine zY.istore4 (zc1_I _) hO dX11_melt_103 ?_
                    refine zY.iinc5 _ rfl (zc1_I _) hO dX11_melt_105 ?_
                    refine zY.goto (tgt := 86) hO dX11_melt_108 (by decide) ?_
                    exact ih86 (by omega)
                have hin := L86 1 (by omega)
                rw [show zsum (zwnt D i) 1 - zwnt D i 0 = 0 by simp only [zsum]; omega] at hin
                exact hin
              ·
                have hj6 : ¬ zjpn D i = -6 := by rcases hjb with h | ⟨p, h0, h1, h2⟩ <;> omega
                refine zY.bipush hO dX11_melt_72 (by decide) ?_
                exact zY.iret rfl ⟨_, rfl, ⟨by rw [if_neg hj6] at hV; unfold zA_melt; rw [if_pos hxr, if_pos hz2, if_pos (Or.inr hV)]; exact hV.symm, hsc2⟩⟩ hR hO dX11_melt_74
          exact L52 0 (by omega) μ zScr.rfl' (by rw [if_pos (show zjpn D 0 = -6 from rfl)]; rfl)
        ·
          refine zY.iload_n hO dX11_melt_35 rfl ?_
          refine zY.aload_n hO dX11_melt_36 rfl ?_
          refine zY.getR zfl_X11_25 (by decide : 127 < 150) rfl rfl hO dX11_melt_37 ?_
          refine zY.iload_n hO dX11_melt_40 rfl ?_
          refine zY.iald (i) rfl (by omega) (by decide) (by decide : 133 < 150) rfl hO dX11_melt_41 ?_
          refine zY.as (b := D 5 i) (hM.2.1.1 5 (by omega) (by omega) i (by omega)) ?_
          refine zY.iadd hO dX11_melt_42 ?_
          refine zY.istore2 (zc1_I _) hO dX11_melt_43 ?_
          refine zY.iinc3 _ rfl (zc1_I _) hO dX11_melt_44 ?_
          refine zY.goto (tgt := 29) hO dX11_melt_47 (by decide) ?_
          exact ih29 (by omega)
      exact L29 0 (by omega)
    ·
      refine zY.bipush hO dX11_melt_22 (by decide) ?_
      exact zY.iret rfl ⟨_, rfl, ⟨by unfold zA_melt; rw [if_pos hxr, if_neg (by omega)], zScr.rfl'⟩⟩ hR hO dX11_melt_24
  ·
    refine zY.iload_n hO dX11_melt_5 rfl ?_
    refine zY.callS1iD (ct_X11_isSort hx) (by decide) zcal_X11_isSort zml_X11_125 (Nat.le_of_ble_eq_true rfl) rfl ⟨Nat.zero_le _, Nat.zero_le _⟩ hO dX11_melt_6 ?_
    refine zY.if_ne (tgt := 14) zr_b hO dX11_melt_9 (by decide) (fun c9 => ?_) (fun c9 => ?_)
    ·
      replace c9 := zb1.mp c9
      have hxr : -1 ≤ x ∧ x ≤ 5 := by omega
      refine zY.aload_n hO dX11_melt_14 rfl ?_
      refine zY.iconst hO dX11_melt_15 ?_
      refine zY.callV1iD (ct_X11_fault hM ⟨by omega, by omega⟩) (by decide) zcal_X11_fault zml_X11_116 (by decide : 127 < 150) rfl rfl (Nat.le_of_ble_eq_true rfl) rfl ⟨Nat.zero_le _, Nat.zero_le _⟩ hO dX11_melt_16 ?_
      have hfn := zflt_n hM.1 2 (by omega) (by omega)
      refine zY.if_lt (tgt := 25) (zflt_b hM.1 2) hO dX11_melt_19 (by decide) (fun c19 => ?_) (fun c19 => ?_)
      ·
        have hz2 : zflt D 2 = -6 := by omega
        have hOq := zOrd_of hz2
        have hn := zN_eq hM.1
        have hpm := hM.2.2.1.2.trans hn.1
        have hNn := hOq.1
        have hd5 := zD5_b hM.1
        refine zY.iconst hO dX11_melt_25 ?_
        refine zY.istore2 (zc1_I _) hO dX11_melt_26 ?_
        refine zY.iconst hO dX11_melt_27 ?_
        refine zY.istore3 (zc1_I _) hO dX11_melt_28 ?_
        have L29 : ∀ i : Nat, i ≤ 6 → zY Γ (150, zSX, ad, 0, 0) 29 [some (zP 127), some (zI x), some (zI (zsum (D 5) i)), some (zI (i : Int)), none, none] [] μ := by
          refine zdown (6) (fun i hi_i ih29 => ?_)
          refine zY.iload_n hO dX11_melt_29 rfl ?_
          refine zY.bipush hO dX11_melt_30 (by decide) ?_
          refine zY.icmp_ge (tgt := 50) ⟨by omega, by omega⟩ ⟨by omega, by omega⟩ hO dX11_melt_32 (by decide) (fun c32 => ?_) (fun c32 => ?_)
          ·
            have hi6 : i = 6 := by omega
            subst hi6
            clear ih29
            refine zY.iconst hO dX11_melt_50 ?_
            refine zY.istore3 (zc1_I _) hO dX11_melt_51 ?_
            have L52 : ∀ i : Nat, i ≤ zN D + 1 → ∀ μ1 : zMem, zScr μ μ1 → zmp D = (if zjpn D i = -6 then zmpr D (zN D + 1 - i) i else -6) → zY Γ (150, zSX, ad, 0, 0) 52 [some (zP 127), some (zI x), some (zI (zsum (D 5) 6)), some (zI (i : Int)), none, none] [] μ1 := by
              refine zdown (zN D + 1) (fun i hi_i ih52 => ?_)
              intro μ1 hsc hV
              have hMi := hsc.md hM
              refine zY.iload_n hO dX11_melt_52 rfl ?_
              refine zY.aload_n hO dX11_melt_53 rfl ?_
              refine zY.getI zfl_X11_93 (by decide : 127 < 150) rfl rfl hO dX11_melt_54 ?_
              refine zY.as (b := (zN D : Int)) (hMi.2.2.1.2.trans hn.1) ?_
              refine zY.icmp_gt (tgt := 157) ⟨by omega, by omega⟩ ⟨by omega, by omega⟩ hO dX11_melt_57 (by decide) (fun c57 => ?_) (fun c57 => ?_)
              ·
                refine zY.bipush hO dX11_melt_157 (by decide) ?_
                exact zY.iret rfl ⟨_, rfl, ⟨by unfold zA_melt; rw [if_pos hxr, if_pos hz2, if_pos (Or.inr (by rw [hV, show zN D + 1 - i = 0 by omega]; split <;> rfl)), hV, show zN D + 1 - i = 0 by omega]; split <;> rfl, hsc⟩⟩ hR hO dX11_melt_159
              ·
                refine zY.aload_n hO dX11_melt_60 rfl ?_
                refine zY.iload_n hO dX11_melt_61 rfl ?_
                refine zY.callV1v (ct_X11_judgeAll hMi hOq (many := i) (by omega)) (by decide) zcal_X11_judgeAll zml_X11_183 (by decide : 127 < 150) rfl rfl (Nat.le_of_ble_eq_true rfl) rfl ⟨Nat.zero_le _, Nat.zero_le _⟩ hO dX11_melt_62 (fun μ2 hq2 => ?_)
                obtain ⟨hs2, hJd⟩ := hq2
                have hsc2 := hsc.trans hs2
                have hM2 := hsc2.md hM
                have hjb : (zjpn D i = -6 ∧ μ2 127 14 = -6) ∨ (∃ p : Nat, p < i ∧ zjpn D i = (p : Int) ∧ μ2 127 14 = (p : Int)) := by
                  rcases hJd with h | ⟨p, h0, h1, h2, h3⟩
                  · exact Or.inl ⟨h.1, h.2.1⟩
                  · exact Or.inr ⟨p, h0, h1, h2⟩
                refine zY.aload_n hO dX11_melt_65 rfl ?_
                refine zY.getI zfl_X11_159 (by decide : 127 < 150) rfl rfl hO dX11_melt_66 ?_
                refine zY.if_lt (tgt := 75) ⟨by rcases hjb with h | ⟨p, h0, h1, h2⟩ <;> omega, by rcases hjb with h | ⟨p, h0, h1, h2⟩ <;> omega⟩ hO dX11_melt_69 (by decide) (fun c69 => ?_) (fun c69 => ?_)
                ·
                  have hj6 : zjpn D i = -6 := by rcases hjb with h | ⟨p, h0, h1, h2⟩ <;> omega
                  refine zY.aload_n hO dX11_melt_75 rfl ?_
                  refine zY.iload_n hO dX11_melt_76 rfl ?_
                  refine zY.callV1v (ct_X11_findWanted hM2 hOq (p := i) (by omega)) (by decide) zcal_X11_findWanted zml_X11_243 (by decide : 127 < 150) rfl rfl (Nat.le_of_ble_eq_true rfl) rfl ⟨Nat.zero_le _, Nat.zero_le _⟩ hO dX11_melt_77 (fun μ3 hq3 => ?_)
                  obtain ⟨hs3, hw3⟩ := hq3
                  have hsc3 := hsc2.trans hs3
                  rw [if_pos hj6] at hV
                  have hwb := zwns_b hM.1 hOq i
                  have hV2 : zmp D = if zsum (zwnt D i) 6 ≤ zsum (D 5) 6 then (i : Int) else if 0 < zlk (znd D (zord D i) 0) (zwk D i) then -6 else zmpr D (zN D - i) (i + 1) := by rw [hV, show zN D + 1 - i = (zN D - i) + 1 by omega]; rfl
                  refine zY.iconst hO dX11_melt_80 ?_
                  refine zY.istore4 (zc1_I _) hO dX11_melt_81 ?_
                  refine zY.iconst hO dX11_melt_83 ?_
                  refine zY.istore5 (zc1_I _) hO dX11_melt_84 ?_
                  have L86 : ∀ k : Nat, k ≤ 6 → zY Γ (150, zSX, ad, 0, 0) 86 [some (zP 127), some (zI x), some (zI (zsum (D 5) 6)), some (zI (i : Int)), some (zI (zsum (zwnt D i) k - zwnt D i 0)), some (zI (k : Int))] [] μ3 := by
                    refine zdown (6) (fun k hi_k ih86 => ?_)
                    refine zY.iload hO dX11_melt_86 rfl ?_
                    refine zY.bipush hO dX11_melt_88 (by decide) ?_
                    refine zY.icmp_ge (tgt := 111) ⟨by omega, by omega⟩ ⟨by omega, by omega⟩ hO dX11_melt_90 (by decide) (fun c90 => ?_) (fun c90 => ?_)
                    ·
                      have hk6 : k = 6 := by omega
                      subst hk6
                      refine zY.iload hO dX11_melt_111 rfl ?_
                      refine zY.aload_n hO dX11_melt_113 rfl ?_
                      refine zY.getR zfl_X11_64 (by decide : 127 < 150) rfl rfl hO dX11_melt_114 ?_
                      refine zY.iconst hO dX11_melt_117 ?_
                      refine zY.iald (0) rfl (by omega) (by decide) (by decide : 146 < 150) rfl hO dX11_melt_118 ?_
                      refine zY.as (b := zwnt D i 0) (hw3 0 (by omega)) ?_
                      refine zY.iadd hO dX11_melt_119 ?_
                      refine zY.as (b := zsum (zwnt D i) 6) (by omega) ?_
                      refine zY.iload_n hO dX11_melt_120 rfl ?_
                      refine zY.icmp_gt (tgt := 151) ⟨by omega, by omega⟩ ⟨by omega, by omega⟩ hO dX11_melt_121 (by decide) (fun c121 => ?_) (fun c121 => ?_)
                      ·
                        refine zY.iinc3 _ rfl (zc1_I _) hO dX11_melt_151 ?_
                        refine zY.goto (tgt := 52) hO dX11_melt_154 (by decide) ?_
                        refine zY.none4 ?_
                        refine zY.none5 ?_
                        have hiN : i < zN D := by
                          have hz := zwns_0 (D := D) (a := i)
                          omega
                        rw [if_neg (by omega)] at hV2
                        refine ih52 (by omega) μ3 hsc3 ?_
                        have h1q := zjpn_s hj6
                        have h2q := zlks_0 (D := D) (i := i)
                        have ho := hOq.2.1 i hiN
                        have hzk := zlk_b (A := znd D (zord D i) 0) (F := zwk D i) (fun x hx => by have h1q := znd_b (ch := 0) x hM.1 ho.2.1; have h2q := zwk_b hM.1 hx i; omega)
                        by_cases e : zlk (znd D (zord D i) 0) (zwk D i) = 0
                        · rw [if_pos (h1q.mpr (h2q.mpr e)), hV2, if_neg (by omega), show zN D + 1 - (i + 1) = zN D - i by omega]
                        · rw [if_neg (fun z => e (h2q.mp (h1q.mp z))), hV2, if_pos (by omega)]
                      ·
                        refine zY.iload_n hO dX11_melt_124 rfl ?_
                        refine zY.iconst hO dX11_melt_125 ?_
                        refine zY.icmp_ne (tgt := 133) hx ⟨by omega, by omega⟩ hO dX11_melt_126 (by decide) (fun c126 => ?_) (fun c126 => ?_)
                        ·
                          refine zY.iload_n hO dX11_melt_133 rfl ?_
                          refine zY.if_ne (tgt := 144) hx hO dX11_melt_134 (by decide) (fun c134 => ?_) (fun c134 => ?_)
                          ·
                            refine zY.aload_n hO dX11_melt_144 rfl ?_
                            refine zY.getR zfl_X11_64 (by decide : 127 < 150) rfl rfl hO dX11_melt_145 ?_
                            refine zY.iload_n hO dX11_melt_148 rfl ?_
                            refine zY.iald (x.toNat) (by omega) (by omega) (by decide) (by decide : 146 < 150) rfl hO dX11_melt_149 ?_
                            exact zY.iret rfl ⟨_, rfl, ⟨by rw [if_pos (by omega)] at hV2; unfold zA_melt; rw [if_pos hxr, if_pos hz2, if_neg (by omega), if_neg (show ¬ x = 0 by omega), hV2, Int.toNat_natCast]; exact hw3 _ (by omega), hsc3⟩⟩ hR hO dX11_melt_150
                          ·
                            refine zY.iload_n hO dX11_melt_137 rfl ?_
                            refine zY.iload hO dX11_melt_138 rfl ?_
                            refine zY.isub hO dX11_melt_140 ?_
                            refine zY.goto (tgt := 150) hO dX11_melt_141 (by decide) ?_
                            exact zY.iret rfl ⟨_, rfl, ⟨by rw [if_pos (by omega)] at hV2; unfold zA_melt; rw [if_pos hxr, if_pos hz2, if_neg (by omega), if_pos (show x = 0 by omega), hV2, Int.toNat_natCast]; omega, hsc3⟩⟩ hR hO dX11_melt_150
                        ·
                          refine zY.iload_n hO dX11_melt_129 rfl ?_
                          refine zY.goto (tgt := 150) hO dX11_melt_130 (by decide) ?_
                          exact zY.iret rfl ⟨_, rfl, ⟨by rw [if_pos (by omega)] at hV2; unfold zA_melt; rw [if_pos hxr, if_pos hz2, if_pos (Or.inl (by omega)), hV2], hsc3⟩⟩ hR hO dX11_melt_150
                    ·
                      refine zY.iload hO dX11_melt_93 rfl ?_
                      refine zY.aload_n hO dX11_melt_95 rfl ?_
                      refine zY.getR zfl_X11_64 (by decide : 127 < 150) rfl rfl hO dX11_melt_96 ?_
                      refine zY.iload hO dX11_melt_99 rfl ?_
                      refine zY.iald (k) rfl (by omega) (by decide) (by decide : 146 < 150) rfl hO dX11_melt_101 ?_
                      refine zY.as (b := zwnt D i k) (hw3 k (by omega)) ?_
                      refine zY.iadd hO dX11_melt_102 ?_
                      refine zY.as (b := zsum (zwnt D i) (k + 1) - zwnt D i 0) (by simp only [zsum]; omega) ?_
                      refine zY.istore4 (zc1_I _) hO dX11_melt_103 ?_
                      refine zY.iinc5 _ rfl (zc1_I _) hO dX11_melt_105 ?_
                      refine zY.goto (tgt := 86) hO dX11_melt_108 (by decide) ?_
                      exact ih86 (by omega)
                  have hin := L86 1 (by omega)
                  rw [show zsum (zwnt D i) 1 - zwnt D i 0 = 0 by simp only [zsum]; omega] at hin
                  exact hin
                ·
                  have hj6 : ¬ zjpn D i = -6 := by rcases hjb with h | ⟨p, h0, h1, h2⟩ <;> omega
                  refine zY.bipush hO dX11_melt_72 (by decide) ?_
                  exact zY.iret rfl ⟨_, rfl, ⟨by rw [if_neg hj6] at hV; unfold zA_melt; rw [if_pos hxr, if_pos hz2, if_pos (Or.inr hV)]; exact hV.symm, hsc2⟩⟩ hR hO dX11_melt_74
            exact L52 0 (by omega) μ zScr.rfl' (by rw [if_pos (show zjpn D 0 = -6 from rfl)]; rfl)
          ·
            refine zY.iload_n hO dX11_melt_35 rfl ?_
            refine zY.aload_n hO dX11_melt_36 rfl ?_
            refine zY.getR zfl_X11_25 (by decide : 127 < 150) rfl rfl hO dX11_melt_37 ?_
            refine zY.iload_n hO dX11_melt_40 rfl ?_
            refine zY.iald (i) rfl (by omega) (by decide) (by decide : 133 < 150) rfl hO dX11_melt_41 ?_
            refine zY.as (b := D 5 i) (hM.2.1.1 5 (by omega) (by omega) i (by omega)) ?_
            refine zY.iadd hO dX11_melt_42 ?_
            refine zY.istore2 (zc1_I _) hO dX11_melt_43 ?_
            refine zY.iinc3 _ rfl (zc1_I _) hO dX11_melt_44 ?_
            refine zY.goto (tgt := 29) hO dX11_melt_47 (by decide) ?_
            exact ih29 (by omega)
        exact L29 0 (by omega)
      ·
        refine zY.bipush hO dX11_melt_22 (by decide) ?_
        exact zY.iret rfl ⟨_, rfl, ⟨by unfold zA_melt; rw [if_pos hxr, if_neg (by omega)], zScr.rfl'⟩⟩ hR hO dX11_melt_24
    ·
      replace c9 := zb0.mp c9
      refine zY.iconst hO dX11_melt_12 ?_
      exact zY.iret rfl ⟨_, rfl, ⟨by unfold zA_melt; rw [if_neg (by omega)], zScr.rfl'⟩⟩ hR hO dX11_melt_13
