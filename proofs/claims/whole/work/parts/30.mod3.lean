/-! the model: judge, loans -/
def zjpn (D : zBk) (many : Nat) : Int := zfst (fun k => decide (zlks D k ≠ -6)) 0 many
/-- what judgeAll leaves behind -/
def zJd (D : zBk) (many : Nat) (b s m : Int) : Prop := (zjpn D many = -6 ∧ b = -6 ∧ s = -6 ∧ m = -6) ∨ ∃ p : Nat, p < many ∧ zjpn D many = (p : Int) ∧ b = (p : Int) ∧ s = zlks D p ∧ m = zlkk D p (zlks D p).toNat
theorem zlks_eq {D : zBk} {i : Nat} : zfst (fun x => decide (zwk D i x < znd D (zord D i) 0 x)) 0 6 = zlks D i := by
  unfold zlks
  congr 1
  funext x
  refine decide_eq_decide.mpr ?_
  unfold zlkk
  omega
theorem zlks_b (D : zBk) (i : Nat) : zlks D i = -6 ∨ (0 ≤ zlks D i ∧ zlks D i ≤ 5 ∧ 0 < zlkk D i (zlks D i).toNat) := by
  have h := zfst_b (fun x => decide (0 < zlkk D i x)) 6 0
  rcases h with h | ⟨h1, h2, h3, h4⟩
  · exact Or.inl h
  · refine Or.inr ⟨?_, ?_, of_decide_eq_true h3⟩
    · show 0 ≤ zfst (fun x => decide (0 < zlkk D i x)) 0 6
      omega
    · show zfst (fun x => decide (0 < zlkk D i x)) 0 6 ≤ 5
      omega
theorem zsum_one {f : Nat → Int} {x : Nat} : ∀ k, zsum (fun s => if s = x then f s else 0) k = if x < k then f x else 0
  | 0 => by simp [zsum]
  | k + 1 => by
    simp only [zsum]
    rw [zsum_one k]
    by_cases e : k = x
    · subst e
      rw [if_neg (by omega), if_pos rfl, if_pos (by omega)]
      omega
    · rw [if_neg e]
      by_cases h : x < k
      · rw [if_pos h, if_pos (by omega)]; omega
      · rw [if_neg h, if_neg (by omega)]; omega

set_option maxRecDepth 100000 in
set_option maxHeartbeats 4000000 in
theorem ct_X11_judgeAll {μ : zMem} {D : zBk} {K0 K1 : Option zBk} (hM : zMd D K0 K1 μ) (hOq : zOrd D) {many : Nat} (hm : many ≤ zN D) : Cv kX11_judgeAll 5 150 zSX [zP 127, zI (many : Int)] μ (fun μ' => zScr μ μ' ∧ zJd D many (μ' 127 14) (μ' 127 15) (μ' 127 16)) := by
  refine Ct.of [some (zP 127), some (zI (many : Int)), none, none, none] rfl (Nat.le_of_ble_eq_true rfl) (by decide +kernel) (fun Γ ad hO hR => ?_)
  have hNn := hOq.1
  refine zY.aload_n hO dX11_judgeAll_0 rfl ?_
  refine zY.bipush hO dX11_judgeAll_1 (by decide) ?_
  refine zY.putI zfp_X11_159 (by decide : 127 < 150) rfl rfl hO dX11_judgeAll_3 ?_
  refine zY.aload_n hO dX11_judgeAll_6 rfl ?_
  refine zY.bipush hO dX11_judgeAll_7 (by decide) ?_
  refine zY.putI zfp_X11_162 (by decide : 127 < 150) rfl rfl hO dX11_judgeAll_9 ?_
  refine zY.aload_n hO dX11_judgeAll_12 rfl ?_
  refine zY.bipush hO dX11_judgeAll_13 (by decide) ?_
  refine zY.putI zfp_X11_165 (by decide : 127 < 150) rfl rfl hO dX11_judgeAll_15 ?_
  obtain ⟨μa, hma⟩ : ∃ μa : zMem, μa = zwr (zwr (zwr μ 127 14 (-6)) 127 15 (-6)) 127 16 (-6) := ⟨_, rfl⟩
  rw [← hma]
  have hsa : zScr μ μa := by rw [hma]; exact ((zScr.rfl'.fld (by omega) (by omega)).fld (by omega) (by omega)).fld (by omega) (by omega)
  have hf14 : μa 127 14 = -6 ∧ μa 127 15 = -6 ∧ μa 127 16 = -6 := by rw [hma]; simp [zwr]
  refine zY.aload_n hO dX11_judgeAll_18 rfl ?_
  refine zY.callV0v (ct_X11_openCase (hsa.md hM)) (by decide) zcal_X11_openCase zml_X11_168 (by decide : 127 < 150) rfl rfl (Nat.le_of_ble_eq_true rfl) rfl ⟨Nat.zero_le _, Nat.zero_le _⟩ hO dX11_judgeAll_19 (fun μ2 hq1 => ?_)
  obtain ⟨hq, hq1, hq2⟩ := hq1
  refine zY.iconst hO dX11_judgeAll_22 ?_
  refine zY.istore2 (zc1_I _) hO dX11_judgeAll_23 ?_
  have L24 : ∀ i : Nat, i ≤ many → ∀ (μ1 : zMem) (bq1 sq1 mq1 : Int), zScr μ μ1 → μ1 127 14 = bq1 → μ1 127 15 = sq1 → μ1 127 16 = mq1 → ((bq1 = -6 ∧ sq1 = -6 ∧ mq1 = -6 ∧ (∀ x, x < 6 → μ1 138 x = zwk D i x) ∧ zjpn D many = zfst (fun k => decide (zlks D k ≠ -6)) i (many - i)) ∨ (0 ≤ bq1 ∧ bq1 ≤ 14 ∧ zJd D many bq1 sq1 mq1)) → zY Γ (150, zSX, ad, 0, 0) 24 [some (zP 127), some (zI (many : Int)), some (zI (i : Int)), none, none] [] μ1 := by
    refine zdown (many) (fun i hi_i ih24 => ?_)
    intro μ1 bq1 sq1 mq1 hsc h14 h15 h16 hB
    have hMi := hsc.md hM
    refine zY.iload_n hO dX11_judgeAll_24 rfl ?_
    refine zY.iload_n hO dX11_judgeAll_25 rfl ?_
    refine zY.icmp_ge (tgt := 108) ⟨by omega, by omega⟩ ⟨by omega, by omega⟩ hO dX11_judgeAll_26 (by decide) (fun c26 => ?_) (fun c26 => ?_)
    ·
      exact zY.vret rfl ⟨rfl, ⟨hsc, by rw [h14, h15, h16]; rcases hB with ⟨h1, h2, h3, h4, h5⟩ | h; (· exact Or.inl ⟨by rw [h5, show i = many by omega, zfst_end], h1, h2, h3⟩); (· exact h.2.2)⟩⟩ hR hO dX11_judgeAll_108
    ·
      refine zY.aload_n hO dX11_judgeAll_29 rfl ?_
      refine zY.getI zfl_X11_159 (by decide : 127 < 150) rfl rfl hO dX11_judgeAll_30 ?_
      refine zY.as (b := bq1) h14 ?_
      refine zY.if_ge (tgt := 108) ⟨by omega, by omega⟩ hO dX11_judgeAll_33 (by decide) (fun c33 => ?_) (fun c33 => ?_)
      ·
        exact zY.vret rfl ⟨rfl, ⟨hsc, by rw [h14, h15, h16]; exact (hB.resolve_left (fun z => by have := z.1; omega)).2.2⟩⟩ hR hO dX11_judgeAll_108
      ·
        obtain ⟨hb1, hs1, hm1, hJ, hV⟩ := hB.resolve_right (fun z => by have := z.1; omega)
        have ho := hOq.2.1 i (by omega)
        refine zY.aload_n hO dX11_judgeAll_36 rfl ?_
        refine zY.iload_n hO dX11_judgeAll_37 rfl ?_
        refine zY.callV1iD (ct_X11_sheetAt hMi (i := i) (by omega)) (by decide) zcal_X11_sheetAt zml_X11_171 (by decide : 127 < 150) rfl rfl (Nat.le_of_ble_eq_true rfl) rfl ⟨Nat.zero_le _, Nat.zero_le _⟩ hO dX11_judgeAll_38 ?_
        refine zY.as (b := (zord D i : Int)) (by omega) ?_
        refine zY.istore3 (zc1_I _) hO dX11_judgeAll_41 ?_
        refine zY.aload_n hO dX11_judgeAll_42 rfl ?_
        refine zY.iload_n hO dX11_judgeAll_43 rfl ?_
        refine zY.iconst hO dX11_judgeAll_44 ?_
        refine zY.callV2v (ct_X11_findNeeds (ch := 0) hMi ho.2.1 (by omega) (zokc_0 D _)) (by decide) zcal_X11_findNeeds zml_X11_149 (by decide : 127 < 150) rfl rfl (Nat.le_of_ble_eq_true rfl) rfl ⟨Nat.zero_le _, Nat.zero_le _⟩ hO dX11_judgeAll_45 (fun μ3 hq3 => ?_)
        obtain ⟨nq, hq3, hq4⟩ := hq3
        have hs3 : zScr μ μ3 := by rw [hq3]; exact hsc.row (by decide) (by decide)
        have hM3 := hs3.md hM
        have hn3 : ∀ x, x < 6 → μ3 137 x = znd D (zord D i) 0 x := fun x hx => by rw [hq3, zrow_eq]; exact hq4 x hx
        have hl3 : ∀ x, x < 6 → μ3 138 x = zwk D i x := fun x hx => by rw [hq3, zrow_ne (by decide)]; exact hJ x hx
        have hf3 : ∀ j, μ3 127 j = μ1 127 j := fun j => by rw [hq3, zrow_ne (by decide)]
        refine zY.aload_n hO dX11_judgeAll_48 rfl ?_
        refine zY.callV0iD (ct_X11_lacking hn3 hl3 (fun x hx => by have h1q := znd_b (ch := 0) x hM.1 ho.2.1; have h2q := zwk_b hM.1 hx i; omega)) (by decide) zcal_X11_lacking zml_X11_174 (by decide : 127 < 150) rfl rfl (Nat.le_of_ble_eq_true rfl) rfl ⟨Nat.zero_le _, Nat.zero_le _⟩ hO dX11_judgeAll_49 ?_
        refine zY.as (b := zlks D i) zlks_eq ?_
        have hlb := zlks_b D i
        refine zY.istore4 (zc1_I _) hO dX11_judgeAll_52 ?_
        refine zY.iload hO dX11_judgeAll_54 rfl ?_
        refine zY.if_lt (tgt := 92) ⟨by omega, by omega⟩ hO dX11_judgeAll_56 (by decide) (fun c56 => ?_) (fun c56 => ?_)
        ·
          have hbk := zbk_b 0 hM.1 ho.2.1 ho.2.2
          obtain ⟨bq, hbq⟩ : ∃ bq : Nat, zbk D (zord D i) 0 = (bq : Int) := ⟨(zbk D (zord D i) 0).toNat, by omega⟩
          have hbx : zbx D (zord D i) 0 = (bq : Int) := (zbx_0 ho.2.2).trans hbq
          refine zY.aload_n hO dX11_judgeAll_92 rfl ?_
          refine zY.aload_n hO dX11_judgeAll_93 rfl ?_
          refine zY.iload_n hO dX11_judgeAll_94 rfl ?_
          refine zY.iconst hO dX11_judgeAll_95 ?_
          refine zY.callV2iD (ct_X11_breaksBy (ch := 0) hM3 ho.2.1 (by omega) (zokc_0 D _) ho.2.2 hn3) (by decide) zcal_X11_breaksBy zml_X11_152 (by decide : 127 < 150) rfl rfl (Nat.le_of_ble_eq_true rfl) rfl ⟨Nat.zero_le _, Nat.zero_le _⟩ hO dX11_judgeAll_96 ?_
          refine zY.as hbq ?_
          refine zY.callV1vD (ct_X11_lose (x := bq) (by omega) (by rw [hl3 bq (by omega)]; have h2q := zwk_b hM.1 (show bq < 6 by omega) i; omega)) (by decide) zcal_X11_lose zml_X11_177 (by decide : 127 < 150) rfl rfl (Nat.le_of_ble_eq_true rfl) rfl ⟨Nat.zero_le _, Nat.zero_le _⟩ hO dX11_judgeAll_99 ?_
          refine zY.iinc2 _ rfl (zc1_I _) hO dX11_judgeAll_102 ?_
          refine zY.goto (tgt := 24) hO dX11_judgeAll_105 (by decide) ?_
          refine zY.none3 ?_
          refine zY.none4 ?_
          exact ih24 (by omega) _ _ _ _ (hs3.row (by decide) (by decide)) (by rw [zrow_ne (by decide), hf3]; exact h14) (by rw [zrow_ne (by decide), hf3]; exact h15) (by rw [zrow_ne (by decide), hf3]; exact h16) (Or.inl ⟨hb1, hs1, hm1, fun x hx => by rw [zrow_eq]; simp only [zwk]; rw [hbx]; exact zls_congr (hl3 x hx), by rw [hV, zfst_go (by omega) (by rw [decide_eq_true_eq]; omega)]⟩)
        ·
          obtain ⟨lq, hlq⟩ : ∃ lq : Nat, zlks D i = (lq : Int) := ⟨(zlks D i).toNat, by omega⟩
          have hz1 : zjpn D many = (i : Int) := by rw [hV, zfst_hit (by omega) (decide_eq_true (by omega))]
          refine zY.aload_n hO dX11_judgeAll_59 rfl ?_
          refine zY.iload_n hO dX11_judgeAll_60 rfl ?_
          refine zY.putI zfp_X11_159 (by decide : 127 < 150) rfl rfl hO dX11_judgeAll_61 ?_
          refine zY.aload_n hO dX11_judgeAll_64 rfl ?_
          refine zY.iload hO dX11_judgeAll_65 rfl ?_
          refine zY.putI zfp_X11_162 (by decide : 127 < 150) rfl rfl hO dX11_judgeAll_67 ?_
          refine zY.aload_n hO dX11_judgeAll_70 rfl ?_
          refine zY.aload_n hO dX11_judgeAll_71 rfl ?_
          refine zY.getR zfl_X11_37 (by decide : 127 < 150) rfl rfl hO dX11_judgeAll_72 ?_
          refine zY.iload hO dX11_judgeAll_75 rfl ?_
          refine zY.as (b := (lq : Int)) hlq ?_
          refine zY.iald (lq) rfl (by omega) (by decide) (by decide : 137 < 150) rfl hO dX11_judgeAll_77 ?_
          refine zY.as (b := znd D (zord D i) 0 lq) (by rw [zwr_ne (by decide), zwr_ne (by decide)]; exact hn3 lq (by omega)) ?_
          refine zY.aload_n hO dX11_judgeAll_78 rfl ?_
          refine zY.getR zfl_X11_40 (by decide : 127 < 150) rfl rfl hO dX11_judgeAll_79 ?_
          refine zY.iload hO dX11_judgeAll_82 rfl ?_
          refine zY.as (b := (lq : Int)) hlq ?_
          refine zY.iald (lq) rfl (by omega) (by decide) (by decide : 138 < 150) rfl hO dX11_judgeAll_84 ?_
          refine zY.as (b := zwk D i lq) (by rw [zwr_ne (by decide), zwr_ne (by decide)]; exact hl3 lq (by omega)) ?_
          refine zY.isub hO dX11_judgeAll_85 ?_
          refine zY.putI zfp_X11_165 (by decide : 127 < 150) rfl rfl hO dX11_judgeAll_86 ?_
          refine zY.goto (tgt := 102) hO dX11_judgeAll_89 (by decide) ?_
          refine zY.iinc2 _ rfl (zc1_I _) hO dX11_judgeAll_102 ?_
          refine zY.goto (tgt := 24) hO dX11_judgeAll_105 (by decide) ?_
          refine zY.none3 ?_
          refine zY.none4 ?_
          exact ih24 (by omega) _ (i : Int) (zlks D i) (znd D (zord D i) 0 lq - zwk D i lq) (((hs3.fld (by omega) (by omega)).fld (by omega) (by omega)).fld (by omega) (by omega)) (by simp [zwr]) (by simp [zwr]) (by simp [zwr]) (Or.inr ⟨by omega, by omega, Or.inr ⟨i, by omega, hz1, rfl, rfl, by have hz := hlb.resolve_left (by omega); rw [hlq, Int.toNat_natCast] at hz ⊢; have hz3 := hz.2.2; unfold zlkk at hz3 ⊢; omega⟩⟩)
  exact L24 0 (by omega) μ2 (-6) (-6) (-6) (by rw [hq1]; exact hsa.row (by decide) (by decide)) (by rw [hq1, zrow_ne (by decide)]; exact hf14.1) (by rw [hq1, zrow_ne (by decide)]; exact hf14.2.1) (by rw [hq1, zrow_ne (by decide)]; exact hf14.2.2) (Or.inl ⟨rfl, rfl, rfl, fun x hx => by rw [hq1, zrow_eq]; exact hq2 x hx, rfl⟩)

set_option maxRecDepth 100000 in
set_option maxHeartbeats 4000000 in
theorem ct_X11_judge {μ : zMem} {D : zBk} {K0 K1 : Option zBk} (hM : zMd D K0 K1 μ) {w : Int} (hwz : zr w) : Ci kX11_judge 6 150 zSX [zP 127, zI w] μ (fun a μ' => a = zA_judge D w ∧ zScr μ μ') := by
  refine Ct.of [some (zP 127), some (zI w)] rfl (Nat.le_of_ble_eq_true rfl) (by decide +kernel) (fun Γ ad hO hR => ?_)
  have hn := zN_eq hM.1
  refine zY.iload_n hO dX11_judge_0 rfl ?_
  refine zY.i2l hwz hO dX11_judge_1 ?_
  refine zY.lconst0 hO dX11_judge_2 ?_
  refine zY.ldc2 hO zcl_X11_181 dX11_judge_3 ?_
  refine zY.callS3iD (ct_X11_in ⟨by omega, by omega⟩ ⟨by omega, by omega⟩ ⟨by omega, by omega⟩) (by decide) zcal_X11_in zml_X11_83 (Nat.le_of_ble_eq_true rfl) rfl ⟨Nat.zero_le _, Nat.zero_le _⟩ hO dX11_judge_6 ?_
  refine zY.if_ne (tgt := 15) zr_b hO dX11_judge_9 (by decide) (fun c9 => ?_) (fun c9 => ?_)
  ·
    replace c9 := zb1.mp c9
    refine zY.aload_n hO dX11_judge_15 rfl ?_
    refine zY.iconst hO dX11_judge_16 ?_
    refine zY.callV1iD (ct_X11_fault hM ⟨by omega, by omega⟩) (by decide) zcal_X11_fault zml_X11_116 (by decide : 127 < 150) rfl rfl (Nat.le_of_ble_eq_true rfl) rfl ⟨Nat.zero_le _, Nat.zero_le _⟩ hO dX11_judge_17 ?_
    have hfn := zflt_n hM.1 2 (by omega) (by omega)
    refine zY.if_lt (tgt := 26) (zflt_b hM.1 2) hO dX11_judge_20 (by decide) (fun c20 => ?_) (fun c20 => ?_)
    ·
      have hz2 : zflt D 2 = -6 := by omega
      have hOq := zOrd_of hz2
      refine zY.aload_n hO dX11_judge_26 rfl ?_
      refine zY.aload_n hO dX11_judge_27 rfl ?_
      refine zY.getI zfl_X11_93 (by decide : 127 < 150) rfl rfl hO dX11_judge_28 ?_
      refine zY.as (b := (zN D : Int)) (hM.2.2.1.2.trans hn.1) ?_
      refine zY.callV1v (ct_X11_judgeAll hM hOq (many := zN D) (by omega)) (by decide) zcal_X11_judgeAll zml_X11_183 (by decide : 127 < 150) rfl rfl (Nat.le_of_ble_eq_true rfl) rfl ⟨Nat.zero_le _, Nat.zero_le _⟩ hO dX11_judge_31 (fun μ1 hq1 => ?_)
      obtain ⟨hs1, hJ⟩ := hq1
      refine zY.iload_n hO dX11_judge_34 rfl ?_
      refine zY.if_ne (tgt := 45) hwz hO dX11_judge_35 (by decide) (fun c35 => ?_) (fun c35 => ?_)
      ·
        refine zY.iload_n hO dX11_judge_45 rfl ?_
        refine zY.iconst hO dX11_judge_46 ?_
        refine zY.icmp_ne (tgt := 57) hwz ⟨by omega, by omega⟩ hO dX11_judge_47 (by decide) (fun c47 => ?_) (fun c47 => ?_)
        ·
          refine zY.aload_n hO dX11_judge_57 rfl ?_
          refine zY.getI zfl_X11_165 (by decide : 127 < 150) rfl rfl hO dX11_judge_58 ?_
          exact zY.iret rfl ⟨_, rfl, ⟨by unfold zA_judge zjv; rw [if_pos c9, if_pos hz2]; rcases hJ with ⟨h1, h2, h3, h4⟩ | ⟨p, h0, h1, h2, h3, h4⟩; (· rw [if_pos (show zjp D = -6 from h1)]; exact h4); (· have h1q : zjp D = (p : Int) := h1; rw [if_neg (show ¬ zjp D = -6 by omega), if_neg (show ¬ w = 0 by omega), if_neg (show ¬ w = 1 by omega), h1q, Int.toNat_natCast]; exact h4), hs1⟩⟩ hR hO dX11_judge_61
        ·
          refine zY.aload_n hO dX11_judge_50 rfl ?_
          refine zY.getI zfl_X11_162 (by decide : 127 < 150) rfl rfl hO dX11_judge_51 ?_
          refine zY.goto (tgt := 61) hO dX11_judge_54 (by decide) ?_
          exact zY.iret rfl ⟨_, rfl, ⟨by unfold zA_judge zjv; rw [if_pos c9, if_pos hz2]; rcases hJ with ⟨h1, h2, h3, h4⟩ | ⟨p, h0, h1, h2, h3, h4⟩; (· rw [if_pos (show zjp D = -6 from h1)]; exact h3); (· have h1q : zjp D = (p : Int) := h1; rw [if_neg (show ¬ zjp D = -6 by omega), if_neg (show ¬ w = 0 by omega), if_pos (show w = 1 by omega), h1q, Int.toNat_natCast]; exact h3), hs1⟩⟩ hR hO dX11_judge_61
      ·
        refine zY.aload_n hO dX11_judge_38 rfl ?_
        refine zY.getI zfl_X11_159 (by decide : 127 < 150) rfl rfl hO dX11_judge_39 ?_
        refine zY.goto (tgt := 61) hO dX11_judge_42 (by decide) ?_
        exact zY.iret rfl ⟨_, rfl, ⟨by unfold zA_judge zjv; rw [if_pos c9, if_pos hz2]; rcases hJ with ⟨h1, h2, h3, h4⟩ | ⟨p, h0, h1, h2, h3, h4⟩; (· rw [if_pos (show zjp D = -6 from h1)]; exact h2); (· have h1q : zjp D = (p : Int) := h1; rw [if_neg (show ¬ zjp D = -6 by omega), if_pos (show w = 0 by omega), h1q]; exact h2), hs1⟩⟩ hR hO dX11_judge_61
    ·
      refine zY.bipush hO dX11_judge_23 (by decide) ?_
      exact zY.iret rfl ⟨_, rfl, ⟨by unfold zA_judge; rw [if_pos c9, if_neg (by omega)], zScr.rfl'⟩⟩ hR hO dX11_judge_25
  ·
    replace c9 := zb0.mp c9
    refine zY.bipush hO dX11_judge_12 (by decide) ?_
    exact zY.iret rfl ⟨_, rfl, ⟨by unfold zA_judge; rw [if_neg c9], zScr.rfl'⟩⟩ hR hO dX11_judge_14

set_option maxRecDepth 100000 in
set_option maxHeartbeats 4000000 in
theorem ct_X11_findShort {μ : zMem} {D : zBk} {K0 K1 : Option zBk} (hM : zMd D K0 K1 μ) (hOq : zOrd D) {x : Nat} (hx : x < 6) : Cv kX11_findShort 4 150 zSX [zP 127, zI (x : Int)] μ (fun μ' => zScr μ μ' ∧ ∀ j, j < zN D → μ' 144 j = zlkk D j x) := by
  refine Ct.of [some (zP 127), some (zI (x : Int)), none] rfl (Nat.le_of_ble_eq_true rfl) (by decide +kernel) (fun Γ ad hO hR => ?_)
  have hNn := hOq.1
  have hn := zN_eq hM.1
  refine zY.aload_n hO dX11_findShort_0 rfl ?_
  refine zY.callV0v (ct_X11_openCase hM) (by decide) zcal_X11_openCase zml_X11_168 (by decide : 127 < 150) rfl rfl (Nat.le_of_ble_eq_true rfl) rfl ⟨Nat.zero_le _, Nat.zero_le _⟩ hO dX11_findShort_1 (fun μ2 hq1 => ?_)
  obtain ⟨hq, hq1, hq2⟩ := hq1
  refine zY.iconst hO dX11_findShort_4 ?_
  refine zY.istore2 (zc1_I _) hO dX11_findShort_5 ?_
  have L6 : ∀ i : Nat, i ≤ zN D → ∀ (μ1 : zMem), zScr μ μ1 → (∀ y, y < 6 → μ1 138 y = zwk D i y) → (∀ j, j < i → μ1 144 j = zlkk D j x) → zY Γ (150, zSX, ad, 0, 0) 6 [some (zP 127), some (zI (x : Int)), some (zI (i : Int))] [] μ1 := by
    refine zdown (zN D) (fun i hi_i ih6 => ?_)
    intro μ1 hsc hJ hK
    have hMi := hsc.md hM
    refine zY.iload_n hO dX11_findShort_6 rfl ?_
    refine zY.aload_n hO dX11_findShort_7 rfl ?_
    refine zY.getI zfl_X11_93 (by decide : 127 < 150) rfl rfl hO dX11_findShort_8 ?_
    refine zY.as (b := (zN D : Int)) (hMi.2.2.1.2.trans hn.1) ?_
    refine zY.icmp_ge (tgt := 82) ⟨by omega, by omega⟩ ⟨by omega, by omega⟩ hO dX11_findShort_11 (by decide) (fun c11 => ?_) (fun c11 => ?_)
    ·
      exact zY.vret rfl ⟨rfl, ⟨hsc, fun j hj => hK j (by omega)⟩⟩ hR hO dX11_findShort_82
    ·
      have ho := hOq.2.1 i (by omega)
      refine zY.aload_n hO dX11_findShort_14 rfl ?_
      refine zY.aload_n hO dX11_findShort_15 rfl ?_
      refine zY.iload_n hO dX11_findShort_16 rfl ?_
      refine zY.callV1iD (ct_X11_sheetAt hMi (i := i) (by omega)) (by decide) zcal_X11_sheetAt zml_X11_171 (by decide : 127 < 150) rfl rfl (Nat.le_of_ble_eq_true rfl) rfl ⟨Nat.zero_le _, Nat.zero_le _⟩ hO dX11_findShort_17 ?_
      refine zY.as (b := (zord D i : Int)) (by omega) ?_
      refine zY.iconst hO dX11_findShort_20 ?_
      refine zY.callV2v (ct_X11_findNeeds (ch := 0) hMi ho.2.1 (by omega) (zokc_0 D _)) (by decide) zcal_X11_findNeeds zml_X11_149 (by decide : 127 < 150) rfl rfl (Nat.le_of_ble_eq_true rfl) rfl ⟨Nat.zero_le _, Nat.zero_le _⟩ hO dX11_findShort_21 (fun μ3 hq3 => ?_)
      obtain ⟨nq, hq3, hq4⟩ := hq3
      have hs3 : zScr μ μ3 := by rw [hq3]; exact hsc.row (by decide) (by decide)
      have hn3 : ∀ y, y < 6 → μ3 137 y = znd D (zord D i) 0 y := fun y hy => by rw [hq3, zrow_eq]; exact hq4 y hy
      have hl3 : ∀ y, y < 6 → μ3 138 y = zwk D i y := fun y hy => by rw [hq3, zrow_ne (by decide)]; exact hJ y hy
      have hk3 : ∀ j, j < i → μ3 144 j = zlkk D j x := fun j hj => by rw [hq3, zrow_ne (by decide)]; exact hK j hj
      have hlk : zlkk D i x = max 0 (znd D (zord D i) 0 x - zwk D i x) := rfl
      have hnb := znd_b (ch := 0) x hM.1 ho.2.1
      have hwb := zwk_b hM.1 hx i
      refine zY.aload_n hO dX11_findShort_24 rfl ?_
      refine zY.getR zfl_X11_58 (by decide : 127 < 150) rfl rfl hO dX11_findShort_25 ?_
      refine zY.iload_n hO dX11_findShort_28 rfl ?_
      refine zY.aload_n hO dX11_findShort_29 rfl ?_
      refine zY.getR zfl_X11_37 (by decide : 127 < 150) rfl rfl hO dX11_findShort_30 ?_
      refine zY.iload_n hO dX11_findShort_33 rfl ?_
      refine zY.iald (x) rfl (by omega) (by decide) (by decide : 137 < 150) rfl hO dX11_findShort_34 ?_
      refine zY.as (b := znd D (zord D i) 0 x) (hn3 x hx) ?_
      refine zY.aload_n hO dX11_findShort_35 rfl ?_
      refine zY.getR zfl_X11_40 (by decide : 127 < 150) rfl rfl hO dX11_findShort_36 ?_
      refine zY.iload_n hO dX11_findShort_39 rfl ?_
      refine zY.iald (x) rfl (by omega) (by decide) (by decide : 138 < 150) rfl hO dX11_findShort_40 ?_
      refine zY.as (b := zwk D i x) (hl3 x hx) ?_
      refine zY.icmp_le (tgt := 60) ⟨by omega, by omega⟩ ⟨by omega, by omega⟩ hO dX11_findShort_41 (by decide) (fun c41 => ?_) (fun c41 => ?_)
      ·
        refine zY.iconst hO dX11_findShort_60 ?_
        refine zY.as (b := zlkk D i x) (by omega) ?_
        refine zY.iast (i) rfl (by omega) (by decide) (by decide : 144 < 150) rfl hO dX11_findShort_61 ?_
        have hbk := zbk_b 0 hM.1 ho.2.1 ho.2.2
        obtain ⟨bq, hbq⟩ : ∃ bq : Nat, zbk D (zord D i) 0 = (bq : Int) := ⟨(zbk D (zord D i) 0).toNat, by omega⟩
        have hbx : zbx D (zord D i) 0 = (bq : Int) := (zbx_0 ho.2.2).trans hbq
        obtain ⟨μ4, hm4⟩ : ∃ μ4 : zMem, μ4 = zwr μ3 144 i (zlkk D i x) := ⟨_, rfl⟩
        rw [← hm4]
        have hs4 : zScr μ μ4 := by rw [hm4]; exact hs3.wr (by decide) (by decide)
        have hM4 := hs4.md hM
        have hn4 : ∀ y, y < 6 → μ4 137 y = znd D (zord D i) 0 y := fun y hy => by rw [hm4, zwr_ne (by decide)]; exact hn3 y hy
        have hl4 : ∀ y, y < 6 → μ4 138 y = zwk D i y := fun y hy => by rw [hm4, zwr_ne (by decide)]; exact hl3 y hy
        have hk4 : ∀ j, j < i + 1 → μ4 144 j = zlkk D j x := fun j hj => by
          rw [hm4]
          simp only [zwr]
          by_cases e : j = i
          · subst e; simp
          · rw [if_pos trivial, if_neg e]; exact hk3 j (by omega)
        refine zY.aload_n hO dX11_findShort_62 rfl ?_
        refine zY.aload_n hO dX11_findShort_63 rfl ?_
        refine zY.aload_n hO dX11_findShort_64 rfl ?_
        refine zY.iload_n hO dX11_findShort_65 rfl ?_
        refine zY.callV1iD (ct_X11_sheetAt hM4 (i := i) (by omega)) (by decide) zcal_X11_sheetAt zml_X11_171 (by decide : 127 < 150) rfl rfl (Nat.le_of_ble_eq_true rfl) rfl ⟨Nat.zero_le _, Nat.zero_le _⟩ hO dX11_findShort_66 ?_
        refine zY.as (b := (zord D i : Int)) (by omega) ?_
        refine zY.iconst hO dX11_findShort_69 ?_
        refine zY.callV2iD (ct_X11_breaksBy (ch := 0) hM4 ho.2.1 (by omega) (zokc_0 D _) ho.2.2 hn4) (by decide) zcal_X11_breaksBy zml_X11_152 (by decide : 127 < 150) rfl rfl (Nat.le_of_ble_eq_true rfl) rfl ⟨Nat.zero_le _, Nat.zero_le _⟩ hO dX11_findShort_70 ?_
        refine zY.as hbq ?_
        refine zY.callV1vD (ct_X11_lose (x := bq) (by omega) (by rw [hl4 bq (by omega)]; have h2q := zwk_b hM.1 (show bq < 6 by omega) i; omega)) (by decide) zcal_X11_lose zml_X11_177 (by decide : 127 < 150) rfl rfl (Nat.le_of_ble_eq_true rfl) rfl ⟨Nat.zero_le _, Nat.zero_le _⟩ hO dX11_findShort_73 ?_
        refine zY.iinc2 _ rfl (zc1_I _) hO dX11_findShort_76 ?_
        refine zY.goto (tgt := 6) hO dX11_findShort_79 (by decide) ?_
        exact ih6 (by omega) _ (hs4.row (by decide) (by decide)) (fun y hy => by rw [zrow_eq]; simp only [zwk]; rw [hbx]; exact zls_congr (hl4 y hy)) (fun j hj => by rw [zrow_ne (by decide)]; exact hk4 j hj)
      ·
        refine zY.aload_n hO dX11_findShort_44 rfl ?_
        refine zY.getR zfl_X11_37 (by decide : 127 < 150) rfl rfl hO dX11_findShort_45 ?_
        refine zY.iload_n hO dX11_findShort_48 rfl ?_
        refine zY.iald (x) rfl (by omega) (by decide) (by decide : 137 < 150) rfl hO dX11_findShort_49 ?_
        refine zY.as (b := znd D (zord D i) 0 x) (hn3 x hx) ?_
        refine zY.aload_n hO dX11_findShort_50 rfl ?_
        refine zY.getR zfl_X11_40 (by decide : 127 < 150) rfl rfl hO dX11_findShort_51 ?_
        refine zY.iload_n hO dX11_findShort_54 rfl ?_
        refine zY.iald (x) rfl (by omega) (by decide) (by decide : 138 < 150) rfl hO dX11_findShort_55 ?_
        refine zY.as (b := zwk D i x) (hl3 x hx) ?_
        refine zY.isub hO dX11_findShort_56 ?_
        refine zY.goto (tgt := 61) hO dX11_findShort_57 (by decide) ?_
        refine zY.as (b := zlkk D i x) (by omega) ?_
        refine zY.iast (i) rfl (by omega) (by decide) (by decide : 144 < 150) rfl hO dX11_findShort_61 ?_
        have hbk := zbk_b 0 hM.1 ho.2.1 ho.2.2
        obtain ⟨bq, hbq⟩ : ∃ bq : Nat, zbk D (zord D i) 0 = (bq : Int) := ⟨(zbk D (zord D i) 0).toNat, by omega⟩
        have hbx : zbx D (zord D i) 0 = (bq : Int) := (zbx_0 ho.2.2).trans hbq
        obtain ⟨μ4, hm4⟩ : ∃ μ4 : zMem, μ4 = zwr μ3 144 i (zlkk D i x) := ⟨_, rfl⟩
        rw [← hm4]
        have hs4 : zScr μ μ4 := by rw [hm4]; exact hs3.wr (by decide) (by decide)
        have hM4 := hs4.md hM
        have hn4 : ∀ y, y < 6 → μ4 137 y = znd D (zord D i) 0 y := fun y hy => by rw [hm4, zwr_ne (by decide)]; exact hn3 y hy
        have hl4 : ∀ y, y < 6 → μ4 138 y = zwk D i y := fun y hy => by rw [hm4, zwr_ne (by decide)]; exact hl3 y hy
        have hk4 : ∀ j, j < i + 1 → μ4 144 j = zlkk D j x := fun j hj => by
          rw [hm4]
          simp only [zwr]
          by_cases e : j = i
          · subst e; simp
          · rw [if_pos trivial, if_neg e]; exact hk3 j (by omega)
        refine zY.aload_n hO dX11_findShort_62 rfl ?_
        refine zY.aload_n hO dX11_findShort_63 rfl ?_
        refine zY.aload_n hO dX11_findShort_64 rfl ?_
        refine zY.iload_n hO dX11_findShort_65 rfl ?_
        refine zY.callV1iD (ct_X11_sheetAt hM4 (i := i) (by omega)) (by decide) zcal_X11_sheetAt zml_X11_171 (by decide : 127 < 150) rfl rfl (Nat.le_of_ble_eq_true rfl) rfl ⟨Nat.zero_le _, Nat.zero_le _⟩ hO dX11_findShort_66 ?_
        refine zY.as (b := (zord D i : Int)) (by omega) ?_
        refine zY.iconst hO dX11_findShort_69 ?_
        refine zY.callV2iD (ct_X11_breaksBy (ch := 0) hM4 ho.2.1 (by omega) (zokc_0 D _) ho.2.2 hn4) (by decide) zcal_X11_breaksBy zml_X11_152 (by decide : 127 < 150) rfl rfl (Nat.le_of_ble_eq_true rfl) rfl ⟨Nat.zero_le _, Nat.zero_le _⟩ hO dX11_findShort_70 ?_
        refine zY.as hbq ?_
        refine zY.callV1vD (ct_X11_lose (x := bq) (by omega) (by rw [hl4 bq (by omega)]; have h2q := zwk_b hM.1 (show bq < 6 by omega) i; omega)) (by decide) zcal_X11_lose zml_X11_177 (by decide : 127 < 150) rfl rfl (Nat.le_of_ble_eq_true rfl) rfl ⟨Nat.zero_le _, Nat.zero_le _⟩ hO dX11_findShort_73 ?_
        refine zY.iinc2 _ rfl (zc1_I _) hO dX11_findShort_76 ?_
        refine zY.goto (tgt := 6) hO dX11_findShort_79 (by decide) ?_
        exact ih6 (by omega) _ (hs4.row (by decide) (by decide)) (fun y hy => by rw [zrow_eq]; simp only [zwk]; rw [hbx]; exact zls_congr (hl4 y hy)) (fun j hj => by rw [zrow_ne (by decide)]; exact hk4 j hj)
  exact L6 0 (by omega) μ2 (by rw [hq1]; exact zScr.rfl'.row (by decide) (by decide)) (fun y hy => by rw [hq1, zrow_eq]; exact hq2 y hy) (fun j h => by omega)

set_option maxRecDepth 100000 in
set_option maxHeartbeats 4000000 in
theorem ct_X11_loanOf {μ : zMem} {D : zBk} {K0 K1 : Option zBk} (hM : zMd D K0 K1 μ) (hOq : zOrd D) {x : Nat} (hx : x < 6) {lv : Int} (hlv : zr lv) (hl : ∀ j, j < zN D → μ 144 j = zlkk D j x) : Ci kX11_loanOf 2 150 zSX [zP 127, zI (x : Int), zI lv] μ (fun r μ' => r = zlc D x lv (zN D) ∧ μ' = μ) := by
  refine Ct.of [some (zP 127), some (zI (x : Int)), some (zI lv), none, none, none, none] rfl (Nat.le_of_ble_eq_true rfl) (by decide +kernel) (fun Γ ad hO hR => ?_)
  have hNn := hOq.1
  have hn := zN_eq hM.1
  have hfe : 0 ≤ D 8 0 ∧ D 8 0 ≤ 99 := ⟨hM.1.2.2.1, hM.1.2.2.2.1⟩
  have hre : 0 ≤ D 6 x ∧ D 6 x ≤ 99 := by have := hM.1.2.1 x hx; omega
  have hrm : μ 134 x = D 6 x := hM.2.1.1 6 (by omega) (by omega) x hx
  refine zY.iconst hO dX11_loanOf_0 ?_
  refine zY.istore3 (zc1_I _) hO dX11_loanOf_1 ?_
  refine zY.bipush hO dX11_loanOf_2 (by decide) ?_
  refine zY.istore4 (zc1_I _) hO dX11_loanOf_4 ?_
  refine zY.iconst hO dX11_loanOf_6 ?_
  refine zY.istore5 (zc1_I _) hO dX11_loanOf_7 ?_
  have L9 : ∀ i : Nat, i ≤ zN D → zY Γ (150, zSX, ad, 0, 0) 9 [some (zP 127), some (zI (x : Int)), some (zI lv), some (zI (zlc D x lv i)), some (zI (zla D x lv i)), some (zI (i : Int)), none] [] μ := by
    refine zdown (zN D) (fun i hi_i ih9 => ?_)
    have hlab := zla_b D x lv i
    refine zY.iload hO dX11_loanOf_9 rfl ?_
    refine zY.aload_n hO dX11_loanOf_11 rfl ?_
    refine zY.getI zfl_X11_93 (by decide : 127 < 150) rfl rfl hO dX11_loanOf_12 ?_
    refine zY.as (b := (zN D : Int)) (hM.2.2.1.2.trans hn.1) ?_
    refine zY.icmp_ge (tgt := 88) ⟨by omega, by omega⟩ ⟨by omega, by omega⟩ hO dX11_loanOf_15 (by decide) (fun c15 => ?_) (fun c15 => ?_)
    ·
      refine zY.iload_n hO dX11_loanOf_88 rfl ?_
      exact zY.iret rfl ⟨_, rfl, ⟨by rw [show i = zN D by omega], rfl⟩⟩ hR hO dX11_loanOf_89
    ·
      refine zY.aload_n hO dX11_loanOf_18 rfl ?_
      refine zY.getR zfl_X11_58 (by decide : 127 < 150) rfl rfl hO dX11_loanOf_19 ?_
      refine zY.iload hO dX11_loanOf_22 rfl ?_
      refine zY.iald (i) rfl (by omega) (by decide) (by decide : 144 < 150) rfl hO dX11_loanOf_24 ?_
      refine zY.as (b := zlkk D i x) (hl i (by omega)) ?_
      have hlb := zlkk_b hM.1 (hOq.2.1 i (by omega)).2.1 hx
      refine zY.iload_n hO dX11_loanOf_25 rfl ?_
      refine zY.icmp_lt (tgt := 82) ⟨by omega, by omega⟩ hlv hO dX11_loanOf_26 (by decide) (fun c26 => ?_) (fun c26 => ?_)
      ·
        refine zY.iinc5 _ rfl (zc1_I _) hO dX11_loanOf_82 ?_
        refine zY.goto (tgt := 9) hO dX11_loanOf_85 (by decide) ?_
        have hin := ih9 (by omega)
        rw [show zlc D x lv (i + 1) = zlc D x lv i by simp only [zlc]; rw [if_neg (by omega)], show zla D x lv (i + 1) = zla D x lv i by simp only [zla]; rw [if_neg (by omega)]] at hin
        exact hin
      ·
        refine zY.aload_n hO dX11_loanOf_29 rfl ?_
        refine zY.getR zfl_X11_28 (by decide : 127 < 150) rfl rfl hO dX11_loanOf_30 ?_
        refine zY.iload_n hO dX11_loanOf_33 rfl ?_
        refine zY.iald (x) rfl (by omega) (by decide) (by decide : 134 < 150) rfl hO dX11_loanOf_34 ?_
        refine zY.as (b := D 6 x) hrm ?_
        refine zY.iload hO dX11_loanOf_35 rfl ?_
        refine zY.iload hO dX11_loanOf_37 rfl ?_
        refine zY.isub hO dX11_loanOf_39 ?_
        refine zY.iconst hO dX11_loanOf_40 ?_
        refine zY.isub hO dX11_loanOf_41 ?_
        refine zY.imul hO dX11_loanOf_42 ?_
        refine zY.as (b := ((i : Int) - zla D x lv i - 1) * D 6 x) (Int.mul_comm _ _) ?_
        refine zY.istore6 (zc1_I _) hO dX11_loanOf_43 ?_
        refine zY.iload_n hO dX11_loanOf_45 rfl ?_
        refine zY.aload_n hO dX11_loanOf_46 rfl ?_
        refine zY.getR zfl_X11_28 (by decide : 127 < 150) rfl rfl hO dX11_loanOf_47 ?_
        refine zY.iload_n hO dX11_loanOf_50 rfl ?_
        refine zY.iald (x) rfl (by omega) (by decide) (by decide : 134 < 150) rfl hO dX11_loanOf_51 ?_
        refine zY.as (b := D 6 x) hrm ?_
        refine zY.iload hO dX11_loanOf_52 rfl ?_
        refine zY.if_lt (tgt := 66) ⟨by omega, by omega⟩ hO dX11_loanOf_54 (by decide) (fun c54 => ?_) (fun c54 => ?_)
        ·
          refine zY.aload_n hO dX11_loanOf_66 rfl ?_
          refine zY.getI zfl_X11_77 (by decide : 127 < 150) rfl rfl hO dX11_loanOf_67 ?_
          refine zY.as (b := D 8 0) hM.2.1.2.2.2.2.1 ?_
          refine zY.goto (tgt := 75) hO dX11_loanOf_70 (by decide) ?_
          refine zY.iadd hO dX11_loanOf_75 ?_
          refine zY.iadd hO dX11_loanOf_76 ?_
          refine zY.istore3 (zc1_I _) hO dX11_loanOf_77 ?_
          refine zY.iload hO dX11_loanOf_78 rfl ?_
          refine zY.istore4 (zc1_I _) hO dX11_loanOf_80 ?_
          refine zY.iinc5 _ rfl (zc1_I _) hO dX11_loanOf_82 ?_
          refine zY.goto (tgt := 9) hO dX11_loanOf_85 (by decide) ?_
          refine zY.none6 ?_
          have hin := ih9 (by omega)
          rw [show zlc D x lv (i + 1) = zlc D x lv i + (D 6 x + D 8 0) by simp only [zlc]; rw [if_pos (by omega), if_pos (show zla D x lv i = -6 by omega)]; omega, show zla D x lv (i + 1) = (i : Int) by simp only [zla]; rw [if_pos (by omega)]] at hin
          exact hin
        ·
          have hpr := Int.mul_nonneg (show 0 ≤ (i : Int) - zla D x lv i - 1 by omega) hre.1
          have hpr2 := Int.mul_le_mul (show (i : Int) - zla D x lv i - 1 ≤ 5 by omega) hre.2 hre.1 (by decide)
          refine zY.iload hO dX11_loanOf_57 rfl ?_
          refine zY.aload_n hO dX11_loanOf_59 rfl ?_
          refine zY.getI zfl_X11_77 (by decide : 127 < 150) rfl rfl hO dX11_loanOf_60 ?_
          refine zY.as (b := D 8 0) hM.2.1.2.2.2.2.1 ?_
          refine zY.icmp_le (tgt := 73) ⟨by omega, by omega⟩ ⟨by omega, by omega⟩ hO dX11_loanOf_63 (by decide) (fun c63 => ?_) (fun c63 => ?_)
          ·
            refine zY.iload hO dX11_loanOf_73 rfl ?_
            refine zY.iadd hO dX11_loanOf_75 ?_
            refine zY.iadd hO dX11_loanOf_76 ?_
            refine zY.istore3 (zc1_I _) hO dX11_loanOf_77 ?_
            refine zY.iload hO dX11_loanOf_78 rfl ?_
            refine zY.istore4 (zc1_I _) hO dX11_loanOf_80 ?_
            refine zY.iinc5 _ rfl (zc1_I _) hO dX11_loanOf_82 ?_
            refine zY.goto (tgt := 9) hO dX11_loanOf_85 (by decide) ?_
            refine zY.none6 ?_
            have hin := ih9 (by omega)
            rw [show zlc D x lv (i + 1) = zlc D x lv i + (D 6 x + ((i : Int) - zla D x lv i - 1) * D 6 x) by simp only [zlc]; rw [if_pos (by omega), if_neg (show ¬ zla D x lv i = -6 by omega)]; omega, show zla D x lv (i + 1) = (i : Int) by simp only [zla]; rw [if_pos (by omega)]] at hin
            exact hin
          ·
            refine zY.aload_n hO dX11_loanOf_66 rfl ?_
            refine zY.getI zfl_X11_77 (by decide : 127 < 150) rfl rfl hO dX11_loanOf_67 ?_
            refine zY.as (b := D 8 0) hM.2.1.2.2.2.2.1 ?_
            refine zY.goto (tgt := 75) hO dX11_loanOf_70 (by decide) ?_
            refine zY.iadd hO dX11_loanOf_75 ?_
            refine zY.iadd hO dX11_loanOf_76 ?_
            refine zY.istore3 (zc1_I _) hO dX11_loanOf_77 ?_
            refine zY.iload hO dX11_loanOf_78 rfl ?_
            refine zY.istore4 (zc1_I _) hO dX11_loanOf_80 ?_
            refine zY.iinc5 _ rfl (zc1_I _) hO dX11_loanOf_82 ?_
            refine zY.goto (tgt := 9) hO dX11_loanOf_85 (by decide) ?_
            refine zY.none6 ?_
            have hin := ih9 (by omega)
            rw [show zlc D x lv (i + 1) = zlc D x lv i + (D 6 x + D 8 0) by simp only [zlc]; rw [if_pos (by omega), if_neg (show ¬ zla D x lv i = -6 by omega)]; omega, show zla D x lv (i + 1) = (i : Int) by simp only [zla]; rw [if_pos (by omega)]] at hin
            exact hin
  exact L9 0 (by omega)

set_option maxRecDepth 100000 in
set_option maxHeartbeats 4000000 in
theorem ct_X11_loansOf {μ : zMem} {D : zBk} {K0 K1 : Option zBk} (hM : zMd D K0 K1 μ) (hOq : zOrd D) {x : Nat} (hx : x < 6) : Ci kX11_loansOf 5 150 zSX [zP 127, zI (x : Int)] μ (fun r μ' => r = zco D x ∧ zScr μ μ') := by
  refine Ct.of [some (zP 127), some (zI (x : Int)), none, none, none] rfl (Nat.le_of_ble_eq_true rfl) (by decide +kernel) (fun Γ ad hO hR => ?_)
  have hNn := hOq.1
  have hn := zN_eq hM.1
  refine zY.aload_n hO dX11_loansOf_0 rfl ?_
  refine zY.iload_n hO dX11_loansOf_1 rfl ?_
  refine zY.callV1v (ct_X11_findShort hM hOq hx) (by decide) zcal_X11_findShort zml_X11_223 (by decide : 127 < 150) rfl rfl (Nat.le_of_ble_eq_true rfl) rfl ⟨Nat.zero_le _, Nat.zero_le _⟩ hO dX11_loansOf_2 (fun μ1 hq1 => ?_)
  obtain ⟨hs1, hK⟩ := hq1
  have hM1 := hs1.md hM
  refine zY.iconst hO dX11_loansOf_5 ?_
  refine zY.istore2 (zc1_I _) hO dX11_loansOf_6 ?_
  refine zY.iconst hO dX11_loansOf_7 ?_
  refine zY.istore3 (zc1_I _) hO dX11_loansOf_8 ?_
  have L9 : ∀ i : Nat, i ≤ zN D → zY Γ (150, zSX, ad, 0, 0) 9 [some (zP 127), some (zI (x : Int)), some (zI (zgr D x i)), some (zI (i : Int)), none] [] μ1 := by
    refine zdown (zN D) (fun i hi_i ih9 => ?_)
    have hgr := zgr_b hM.1 hx i (fun j hj => (hOq.2.1 j (by omega)).2.1)
    refine zY.iload_n hO dX11_loansOf_9 rfl ?_
    refine zY.aload_n hO dX11_loansOf_10 rfl ?_
    refine zY.getI zfl_X11_93 (by decide : 127 < 150) rfl rfl hO dX11_loansOf_11 ?_
    refine zY.as (b := (zN D : Int)) (hM1.2.2.1.2.trans hn.1) ?_
    refine zY.icmp_ge (tgt := 44) ⟨by omega, by omega⟩ ⟨by omega, by omega⟩ hO dX11_loansOf_14 (by decide) (fun c14 => ?_) (fun c14 => ?_)
    ·
      have hiN : i = zN D := by omega
      rw [hiN] at hgr ⊢
      obtain ⟨gn, hgn⟩ : ∃ gn : Nat, zgr D x (zN D) = (gn : Int) := ⟨(zgr D x (zN D)).toNat, by omega⟩
      refine zY.iconst hO dX11_loansOf_44 ?_
      refine zY.istore3 (zc1_I _) hO dX11_loansOf_45 ?_
      refine zY.iconst hO dX11_loansOf_46 ?_
      refine zY.istore4 (zc1_I _) hO dX11_loansOf_47 ?_
      have L49 : ∀ l : Nat, l ≤ gn → zY Γ (150, zSX, ad, 0, 0) 49 [some (zP 127), some (zI (x : Int)), some (zI (zgr D x (zN D))), some (zI (zsum (fun l => zlc D x ((l + 1 : Nat) : Int) (zN D)) l)), some (zI ((l + 1 : Nat) : Int))] [] μ1 := by
        refine zdown (gn) (fun l hi_l ih49 => ?_)
        refine zY.iload hO dX11_loansOf_49 rfl ?_
        refine zY.iload_n hO dX11_loansOf_51 rfl ?_
        refine zY.icmp_gt (tgt := 71) ⟨by omega, by omega⟩ ⟨by omega, by omega⟩ hO dX11_loansOf_52 (by decide) (fun c52 => ?_) (fun c52 => ?_)
        ·
          refine zY.iload_n hO dX11_loansOf_71 rfl ?_
          exact zY.iret rfl ⟨_, rfl, ⟨by unfold zco; rw [hgn, Int.toNat_natCast, show l = gn by omega], hs1⟩⟩ hR hO dX11_loansOf_72
        ·
          refine zY.iload_n hO dX11_loansOf_55 rfl ?_
          refine zY.aload_n hO dX11_loansOf_56 rfl ?_
          refine zY.iload_n hO dX11_loansOf_57 rfl ?_
          refine zY.iload hO dX11_loansOf_58 rfl ?_
          refine zY.callV2iD (ct_X11_loanOf hM1 hOq hx (lv := ((l + 1 : Nat) : Int)) ⟨by omega, by omega⟩ hK) (by decide) zcal_X11_loanOf zml_X11_226 (by decide : 127 < 150) rfl rfl (Nat.le_of_ble_eq_true rfl) rfl ⟨Nat.zero_le _, Nat.zero_le _⟩ hO dX11_loansOf_60 ?_
          refine zY.iadd hO dX11_loansOf_63 ?_
          refine zY.istore3 (zc1_I _) hO dX11_loansOf_64 ?_
          refine zY.iinc4 ((l + 1 + 1 : Nat) : Int) (by omega) (zc1_I _) hO dX11_loansOf_65 ?_
          refine zY.goto (tgt := 49) hO dX11_loansOf_68 (by decide) ?_
          exact ih49 (by omega)
      exact L49 0 (by omega)
    ·
      refine zY.aload_n hO dX11_loansOf_17 rfl ?_
      refine zY.getR zfl_X11_58 (by decide : 127 < 150) rfl rfl hO dX11_loansOf_18 ?_
      refine zY.iload_n hO dX11_loansOf_21 rfl ?_
      refine zY.iald (i) rfl (by omega) (by decide) (by decide : 144 < 150) rfl hO dX11_loansOf_22 ?_
      refine zY.as (b := zlkk D i x) (hK i (by omega)) ?_
      have hlb := zlkk_b hM.1 (hOq.2.1 i (by omega)).2.1 hx
      refine zY.iload_n hO dX11_loansOf_23 rfl ?_
      refine zY.icmp_le (tgt := 36) ⟨by omega, by omega⟩ ⟨by omega, by omega⟩ hO dX11_loansOf_24 (by decide) (fun c24 => ?_) (fun c24 => ?_)
      ·
        refine zY.iload_n hO dX11_loansOf_36 rfl ?_
        refine zY.as (b := zgr D x (i + 1)) (by simp only [zgr]; omega) ?_
        refine zY.istore2 (zc1_I _) hO dX11_loansOf_37 ?_
        refine zY.iinc3 _ rfl (zc1_I _) hO dX11_loansOf_38 ?_
        refine zY.goto (tgt := 9) hO dX11_loansOf_41 (by decide) ?_
        exact ih9 (by omega)
      ·
        refine zY.aload_n hO dX11_loansOf_27 rfl ?_
        refine zY.getR zfl_X11_58 (by decide : 127 < 150) rfl rfl hO dX11_loansOf_28 ?_
        refine zY.iload_n hO dX11_loansOf_31 rfl ?_
        refine zY.iald (i) rfl (by omega) (by decide) (by decide : 144 < 150) rfl hO dX11_loansOf_32 ?_
        refine zY.as (b := zlkk D i x) (hK i (by omega)) ?_
        refine zY.goto (tgt := 37) hO dX11_loansOf_33 (by decide) ?_
        refine zY.as (b := zgr D x (i + 1)) (by simp only [zgr]; omega) ?_
        refine zY.istore2 (zc1_I _) hO dX11_loansOf_37 ?_
        refine zY.iinc3 _ rfl (zc1_I _) hO dX11_loansOf_38 ?_
        refine zY.goto (tgt := 9) hO dX11_loansOf_41 (by decide) ?_
        exact ih9 (by omega)
  exact L9 0 (by omega)

set_option maxRecDepth 100000 in
set_option maxHeartbeats 4000000 in
theorem ct_X11_loans {μ : zMem} {D : zBk} {K0 K1 : Option zBk} (hM : zMd D K0 K1 μ) {x : Int} (hx : zr x) : Ci kX11_loans 6 150 zSX [zP 127, zI x] μ (fun a μ' => a = zA_loans D x ∧ zScr μ μ') := by
  refine Ct.of [some (zP 127), some (zI x), none, none] rfl (Nat.le_of_ble_eq_true rfl) (by decide +kernel) (fun Γ ad hO hR => ?_)
  refine zY.iload_n hO dX11_loans_0 rfl ?_
  refine zY.iconst hO dX11_loans_1 ?_
  refine zY.icmp_eq (tgt := 14) hx ⟨by omega, by omega⟩ hO dX11_loans_2 (by decide) (fun c2 => ?_) (fun c2 => ?_)
  ·
    have hxr : -1 ≤ x ∧ x ≤ 5 := by omega
    refine zY.aload_n hO dX11_loans_14 rfl ?_
    refine zY.iconst hO dX11_loans_15 ?_
    refine zY.callV1iD (ct_X11_fault hM ⟨by omega, by omega⟩) (by decide) zcal_X11_fault zml_X11_116 (by decide : 127 < 150) rfl rfl (Nat.le_of_ble_eq_true rfl) rfl ⟨Nat.zero_le _, Nat.zero_le _⟩ hO dX11_loans_16 ?_
    have hfn := zflt_n hM.1 2 (by omega) (by omega)
    refine zY.if_lt (tgt := 25) (zflt_b hM.1 2) hO dX11_loans_19 (by decide) (fun c19 => ?_) (fun c19 => ?_)
    ·
      have hz2 : zflt D 2 = -6 := by omega
      have hOq := zOrd_of hz2
      refine zY.iconst hO dX11_loans_25 ?_
      refine zY.istore2 (zc1_I _) hO dX11_loans_26 ?_
      refine zY.iconst hO dX11_loans_27 ?_
      refine zY.istore3 (zc1_I _) hO dX11_loans_28 ?_
      have L29 : ∀ i : Nat, i ≤ 6 → ∀ μ1 : zMem, zScr μ μ1 → zY Γ (150, zSX, ad, 0, 0) 29 [some (zP 127), some (zI x), some (zI (zsum (fun s => if x = -1 ∨ x = (s : Int) then zco D s else 0) i)), some (zI (i : Int))] [] μ1 := by
        refine zdown (6) (fun i hi_i ih29 => ?_)
        intro μ1 hsc
        have hMi := hsc.md hM
        refine zY.iload_n hO dX11_loans_29 rfl ?_
        refine zY.bipush hO dX11_loans_30 (by decide) ?_
        refine zY.icmp_ge (tgt := 63) ⟨by omega, by omega⟩ ⟨by omega, by omega⟩ hO dX11_loans_32 (by decide) (fun c32 => ?_) (fun c32 => ?_)
        ·
          refine zY.iload_n hO dX11_loans_63 rfl ?_
          exact zY.iret rfl ⟨_, rfl, ⟨by
            unfold zA_loans
            rw [if_pos hxr, if_pos hz2, show i = 6 by omega]
            by_cases e : x < 0
            · rw [if_pos e]
              exact zsum_congr 6 (fun s hs => if_pos (Or.inl (by omega)))
            · rw [if_neg e]
              have hz := zsum_congr (f := fun s => if x = -1 ∨ x = (s : Int) then zco D s else 0) (g := fun s => if s = x.toNat then zco D s else 0) 6 (fun s hs => by
                show (if x = -1 ∨ x = (s : Int) then zco D s else 0) = (if s = x.toNat then zco D s else 0)
                by_cases e2 : s = x.toNat
                · rw [if_pos e2, if_pos (Or.inr (by omega))]
                · rw [if_neg e2, if_neg (by omega)])
              rw [hz, zsum_one, if_pos (by omega)], hsc⟩⟩ hR hO dX11_loans_64
        ·
          refine zY.iload_n hO dX11_loans_35 rfl ?_
          refine zY.iload_n hO dX11_loans_36 rfl ?_
          refine zY.iconst hO dX11_loans_37 ?_
          refine zY.icmp_eq (tgt := 46) hx ⟨by omega, by omega⟩ hO dX11_loans_38 (by decide) (fun c38 => ?_) (fun c38 => ?_)
          ·
            refine zY.aload_n hO dX11_loans_46 rfl ?_
            refine zY.iload_n hO dX11_loans_47 rfl ?_
            refine zY.callV1i (ct_X11_loansOf hMi hOq (x := i) (by omega)) (by decide) zcal_X11_loansOf zml_X11_229 (by decide : 127 < 150) rfl rfl (Nat.le_of_ble_eq_true rfl) rfl ⟨Nat.zero_le _, Nat.zero_le _⟩ hO dX11_loans_48 (fun aq μ2 hq2 => ?_)
            obtain ⟨rfl, hs2⟩ := hq2
            refine zY.goto (tgt := 55) hO dX11_loans_51 (by decide) ?_
            refine zY.iadd hO dX11_loans_55 ?_
            refine zY.istore2 (zc1_I _) hO dX11_loans_56 ?_
            refine zY.iinc3 _ rfl (zc1_I _) hO dX11_loans_57 ?_
            refine zY.goto (tgt := 29) hO dX11_loans_60 (by decide) ?_
            have hin := ih29 (by omega) μ2 (hsc.trans hs2)
            simp only [zsum] at hin
            rw [if_pos (by omega)] at hin
            exact hin
          ·
            refine zY.iload_n hO dX11_loans_41 rfl ?_
            refine zY.iload_n hO dX11_loans_42 rfl ?_
            refine zY.icmp_ne (tgt := 54) hx ⟨by omega, by omega⟩ hO dX11_loans_43 (by decide) (fun c43 => ?_) (fun c43 => ?_)
            ·
              refine zY.iconst hO dX11_loans_54 ?_
              refine zY.iadd hO dX11_loans_55 ?_
              refine zY.istore2 (zc1_I _) hO dX11_loans_56 ?_
              refine zY.iinc3 _ rfl (zc1_I _) hO dX11_loans_57 ?_
              refine zY.goto (tgt := 29) hO dX11_loans_60 (by decide) ?_
              have hin := ih29 (by omega) μ1 hsc
              simp only [zsum] at hin
              rw [if_neg (by omega)] at hin
              exact hin
            ·
              refine zY.aload_n hO dX11_loans_46 rfl ?_
              refine zY.iload_n hO dX11_loans_47 rfl ?_
              refine zY.callV1i (ct_X11_loansOf hMi hOq (x := i) (by omega)) (by decide) zcal_X11_loansOf zml_X11_229 (by decide : 127 < 150) rfl rfl (Nat.le_of_ble_eq_true rfl) rfl ⟨Nat.zero_le _, Nat.zero_le _⟩ hO dX11_loans_48 (fun aq μ2 hq2 => ?_)
              obtain ⟨rfl, hs2⟩ := hq2
              refine zY.goto (tgt := 55) hO dX11_loans_51 (by decide) ?_
              refine zY.iadd hO dX11_loans_55 ?_
              refine zY.istore2 (zc1_I _) hO dX11_loans_56 ?_
              refine zY.iinc3 _ rfl (zc1_I _) hO dX11_loans_57 ?_
              refine zY.goto (tgt := 29) hO dX11_loans_60 (by decide) ?_
              have hin := ih29 (by omega) μ2 (hsc.trans hs2)
              simp only [zsum] at hin
              rw [if_pos (by omega)] at hin
              exact hin
      exact L29 0 (by omega) μ zScr.rfl'
    ·
      refine zY.bipush hO dX11_loans_22 (by decide) ?_
      exact zY.iret rfl ⟨_, rfl, ⟨by unfold zA_loans; rw [if_pos hxr, if_neg (by omega)], zScr.rfl'⟩⟩ hR hO dX11_loans_24
  ·
    refine zY.iload_n hO dX11_loans_5 rfl ?_
    refine zY.callS1iD (ct_X11_isSort hx) (by decide) zcal_X11_isSort zml_X11_125 (Nat.le_of_ble_eq_true rfl) rfl ⟨Nat.zero_le _, Nat.zero_le _⟩ hO dX11_loans_6 ?_
    refine zY.if_ne (tgt := 14) zr_b hO dX11_loans_9 (by decide) (fun c9 => ?_) (fun c9 => ?_)
    ·
      replace c9 := zb1.mp c9
      have hxr : -1 ≤ x ∧ x ≤ 5 := by omega
      refine zY.aload_n hO dX11_loans_14 rfl ?_
      refine zY.iconst hO dX11_loans_15 ?_
      refine zY.callV1iD (ct_X11_fault hM ⟨by omega, by omega⟩) (by decide) zcal_X11_fault zml_X11_116 (by decide : 127 < 150) rfl rfl (Nat.le_of_ble_eq_true rfl) rfl ⟨Nat.zero_le _, Nat.zero_le _⟩ hO dX11_loans_16 ?_
      have hfn := zflt_n hM.1 2 (by omega) (by omega)
      refine zY.if_lt (tgt := 25) (zflt_b hM.1 2) hO dX11_loans_19 (by decide) (fun c19 => ?_) (fun c19 => ?_)
      ·
        have hz2 : zflt D 2 = -6 := by omega
        have hOq := zOrd_of hz2
        refine zY.iconst hO dX11_loans_25 ?_
        refine zY.istore2 (zc1_I _) hO dX11_loans_26 ?_
        refine zY.iconst hO dX11_loans_27 ?_
        refine zY.istore3 (zc1_I _) hO dX11_loans_28 ?_
        have L29 : ∀ i : Nat, i ≤ 6 → ∀ μ1 : zMem, zScr μ μ1 → zY Γ (150, zSX, ad, 0, 0) 29 [some (zP 127), some (zI x), some (zI (zsum (fun s => if x = -1 ∨ x = (s : Int) then zco D s else 0) i)), some (zI (i : Int))] [] μ1 := by
          refine zdown (6) (fun i hi_i ih29 => ?_)
          intro μ1 hsc
          have hMi := hsc.md hM
          refine zY.iload_n hO dX11_loans_29 rfl ?_
          refine zY.bipush hO dX11_loans_30 (by decide) ?_
          refine zY.icmp_ge (tgt := 63) ⟨by omega, by omega⟩ ⟨by omega, by omega⟩ hO dX11_loans_32 (by decide) (fun c32 => ?_) (fun c32 => ?_)
          ·
            refine zY.iload_n hO dX11_loans_63 rfl ?_
            exact zY.iret rfl ⟨_, rfl, ⟨by
              unfold zA_loans
              rw [if_pos hxr, if_pos hz2, show i = 6 by omega]
              by_cases e : x < 0
              · rw [if_pos e]
                exact zsum_congr 6 (fun s hs => if_pos (Or.inl (by omega)))
              · rw [if_neg e]
                have hz := zsum_congr (f := fun s => if x = -1 ∨ x = (s : Int) then zco D s else 0) (g := fun s => if s = x.toNat then zco D s else 0) 6 (fun s hs => by
                  show (if x = -1 ∨ x = (s : Int) then zco D s else 0) = (if s = x.toNat then zco D s else 0)
                  by_cases e2 : s = x.toNat
                  · rw [if_pos e2, if_pos (Or.inr (by omega))]
                  · rw [if_neg e2, if_neg (by omega)])
                rw [hz, zsum_one, if_pos (by omega)], hsc⟩⟩ hR hO dX11_loans_64
          ·
            refine zY.iload_n hO dX11_loans_35 rfl ?_
            refine zY.iload_n hO dX11_loans_36 rfl ?_
            refine zY.iconst hO dX11_loans_37 ?_
            refine zY.icmp_eq (tgt := 46) hx ⟨by omega, by omega⟩ hO dX11_loans_38 (by decide) (fun c38 => ?_) (fun c38 => ?_)
            ·
              refine zY.aload_n hO dX11_loans_46 rfl ?_
              refine zY.iload_n hO dX11_loans_47 rfl ?_
              refine zY.callV1i (ct_X11_loansOf hMi hOq (x := i) (by omega)) (by decide) zcal_X11_loansOf zml_X11_229 (by decide : 127 < 150) rfl rfl (Nat.le_of_ble_eq_true rfl) rfl ⟨Nat.zero_le _, Nat.zero_le _⟩ hO dX11_loans_48 (fun aq μ2 hq2 => ?_)
              obtain ⟨rfl, hs2⟩ := hq2
              refine zY.goto (tgt := 55) hO dX11_loans_51 (by decide) ?_
              refine zY.iadd hO dX11_loans_55 ?_
              refine zY.istore2 (zc1_I _) hO dX11_loans_56 ?_
              refine zY.iinc3 _ rfl (zc1_I _) hO dX11_loans_57 ?_
              refine zY.goto (tgt := 29) hO dX11_loans_60 (by decide) ?_
              have hin := ih29 (by omega) μ2 (hsc.trans hs2)
              simp only [zsum] at hin
              rw [if_pos (by omega)] at hin
              exact hin
            ·
              refine zY.iload_n hO dX11_loans_41 rfl ?_
              refine zY.iload_n hO dX11_loans_42 rfl ?_
              refine zY.icmp_ne (tgt := 54) hx ⟨by omega, by omega⟩ hO dX11_loans_43 (by decide) (fun c43 => ?_) (fun c43 => ?_)
              ·
                refine zY.iconst hO dX11_loans_54 ?_
                refine zY.iadd hO dX11_loans_55 ?_
                refine zY.istore2 (zc1_I _) hO dX11_loans_56 ?_
                refine zY.iinc3 _ rfl (zc1_I _) hO dX11_loans_57 ?_
                refine zY.goto (tgt := 29) hO dX11_loans_60 (by decide) ?_
                have hin := ih29 (by omega) μ1 hsc
                simp only [zsum] at hin
                rw [if_neg (by omega)] at hin
                exact hin
              ·
                refine zY.aload_n hO dX11_loans_46 rfl ?_
                refine zY.iload_n hO dX11_loans_47 rfl ?_
                refine zY.callV1i (ct_X11_loansOf hMi hOq (x := i) (by omega)) (by decide) zcal_X11_loansOf zml_X11_229 (by decide : 127 < 150) rfl rfl (Nat.le_of_ble_eq_true rfl) rfl ⟨Nat.zero_le _, Nat.zero_le _⟩ hO dX11_loans_48 (fun aq μ2 hq2 => ?_)
                obtain ⟨rfl, hs2⟩ := hq2
                refine zY.goto (tgt := 55) hO dX11_loans_51 (by decide) ?_
                refine zY.iadd hO dX11_loans_55 ?_
                refine zY.istore2 (zc1_I _) hO dX11_loans_56 ?_
                refine zY.iinc3 _ rfl (zc1_I _) hO dX11_loans_57 ?_
                refine zY.goto (tgt := 29) hO dX11_loans_60 (by decide) ?_
                have hin := ih29 (by omega) μ2 (hsc.trans hs2)
                simp only [zsum] at hin
                rw [if_pos (by omega)] at hin
                exact hin
        exact L29 0 (by omega) μ zScr.rfl'
      ·
        refine zY.bipush hO dX11_loans_22 (by decide) ?_
        exact zY.iret rfl ⟨_, rfl, ⟨by unfold zA_loans; rw [if_pos hxr, if_neg (by omega)], zScr.rfl'⟩⟩ hR hO dX11_loans_24
    ·
      replace c9 := zb0.mp c9
      refine zY.iconst hO dX11_loans_12 ?_
      exact zY.iret rfl ⟨_, rfl, ⟨by unfold zA_loans; rw [if_neg (by omega)], zScr.rfl'⟩⟩ hR hO dX11_loans_13
