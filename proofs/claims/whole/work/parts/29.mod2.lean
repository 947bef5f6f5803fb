/-! the model: needs, breaks, the case, judge -/
theorem zfo_n {D : zBk} (hW : zWF D) {two : Bool} : ∀ k left (colon : Int) i, zfo D two k left colon i = -6 ∨ 0 ≤ zfo D two k left colon i
  | 0, left, colon, i => by
    have := zN_eq hW
    simp only [zfo]
    split
    · split <;> omega
    · split <;> omega
  | k + 1, left, colon, i => by
    simp only [zfo]
    split
    · exact zfo_n hW k _ _ _
    · split
      · exact zfo_n hW k _ _ _
      · omega
theorem zflt_n {D : zBk} (hW : zWF D) (how : Int) (h0 : 0 ≤ how) (h3 : how ≤ 3) : zflt D how = -6 ∨ 0 ≤ zflt D how := by
  have h1 : ∀ lo hi most, zf1 D lo hi most = -6 ∨ 0 ≤ zf1 D lo hi most := by
    intro lo hi most
    unfold zf1
    have := zfst_b (zf1p D lo hi most) (zN D) 0
    split
    · omega
    · split <;> omega
  unfold zflt
  by_cases e0 : how = 0
  · rw [if_pos e0]; exact h1 _ _ _
  · rw [if_neg e0]
    by_cases e1 : how = 1
    · rw [if_pos e1]; exact h1 _ _ _
    · rw [if_neg e1]
      by_cases e2 : how = 2
      · rw [if_pos e2]; exact zfo_n hW _ _ _ _
      · rw [if_neg e2, if_pos (by omega)]; exact zfo_n hW _ _ _ _

set_option maxRecDepth 100000 in
set_option maxHeartbeats 4000000 in
theorem ct_X11_wordIn {μ : zMem} {D : zBk} {K0 K1 : Option zBk} (hM : zMd D K0 K1 μ) {s i ch : Nat} (hs : s < 6) (hi : (i : Int) < D 4 s) (hc : ch < 64) (ho : ch.testBit i = true → 0 ≤ D 2 (D 3 (6 * s + i)).toNat) : Ci kX11_wordIn 1 150 zSX [zP 127, zI (s : Int), zI (i : Int), zI (ch : Int)] μ (fun r μ' => r = (zwi D s i ch : Int) ∧ μ' = μ) := by
  refine Ct.of [some (zP 127), some (zI (s : Int)), some (zI (i : Int)), some (zI (ch : Int)), none] rfl (Nat.le_of_ble_eq_true rfl) (by decide +kernel) (fun Γ ad hO hR => ?_)
  have hsz := hM.1.2.1 s hs
  have hd3 := hsz.2.2.2.2.2.2.2.2.2 i hi
  obtain ⟨wq, hwq⟩ : ∃ wq : Nat, D 3 (6 * s + i) = (wq : Int) := ⟨(D 3 (6 * s + i)).toNat, by omega⟩
  have hd2 := hM.1.1 wq (by omega)
  refine zY.aload_n hO dX11_wordIn_0 rfl ?_
  refine zY.getR zfl_X11_19 (by decide : 127 < 150) rfl rfl hO dX11_wordIn_1 ?_
  refine zY.bipush hO dX11_wordIn_4 (by decide) ?_
  refine zY.iload_n hO dX11_wordIn_6 rfl ?_
  refine zY.imul hO dX11_wordIn_7 ?_
  refine zY.iload_n hO dX11_wordIn_8 rfl ?_
  refine zY.iadd hO dX11_wordIn_9 ?_
  refine zY.iald (6 * s + i) (by omega) (by omega) (by decide) (by decide : 131 < 150) rfl hO dX11_wordIn_10 ?_
  refine zY.as (b := (wq : Int)) ((hM.2.1.2.2.2.1 s hs i hi).trans hwq) ?_
  refine zY.istore4 (zc1_I _) hO dX11_wordIn_11 ?_
  refine zY.iload_n hO dX11_wordIn_13 rfl ?_
  refine zY.iload_n hO dX11_wordIn_14 rfl ?_
  refine zY.ishr (c := ((ch / 2 ^ i : Nat) : Int)) (zb_shr ch hc i (by omega)) hO dX11_wordIn_15 ?_
  refine zY.iconst hO dX11_wordIn_16 ?_
  have hlt : ch / 2 ^ i < 64 := Nat.lt_of_le_of_lt (Nat.div_le_self _ _) hc
  have hbit := zb_bit ch hc i (by omega)
  refine zY.iand (c := ((ch / 2 ^ i % 2 : Nat) : Int)) (zb_and1 _ hlt) hO dX11_wordIn_17 ?_
  refine zY.iconst hO dX11_wordIn_18 ?_
  refine zY.icmp_ne (tgt := 32) ⟨by omega, by omega⟩ ⟨by omega, by omega⟩ hO dX11_wordIn_19 (by decide) (fun c19 => ?_) (fun c19 => ?_)
  ·
    have hb : ¬ ch.testBit i = true := fun z => by have := hbit.mpr z; omega
    refine zY.iload hO dX11_wordIn_32 rfl ?_
    exact zY.iret rfl ⟨_, rfl, ⟨by unfold zwi; rw [if_neg hb, hwq, Int.toNat_natCast], rfl⟩⟩ hR hO dX11_wordIn_34
  ·
    have hb := hbit.mp (by omega)
    have ho2 := ho hb
    rw [hwq, Int.toNat_natCast] at ho2
    refine zY.aload_n hO dX11_wordIn_22 rfl ?_
    refine zY.getR zfl_X11_16 (by decide : 127 < 150) rfl rfl hO dX11_wordIn_23 ?_
    refine zY.iload hO dX11_wordIn_26 rfl ?_
    refine zY.iald (wq) rfl (by omega) (by decide) (by decide : 130 < 150) rfl hO dX11_wordIn_28 ?_
    refine zY.goto (tgt := 34) hO dX11_wordIn_29 (by decide) ?_
    exact zY.iret rfl ⟨_, rfl, ⟨by unfold zwi; rw [if_pos hb, hwq, Int.toNat_natCast, hM.2.1.2.1 2 (by omega) (by omega) wq (by omega)]; omega, rfl⟩⟩ hR hO dX11_wordIn_34

set_option maxRecDepth 100000 in
set_option maxHeartbeats 4000000 in
theorem ct_X11_addNeeds {μ : zMem} {D : zBk} {K0 K1 : Option zBk} (hM : zMd D K0 K1 μ) {s ch : Nat} (hs : s < 6) (hc : ch < 64) (ho : zokc D s ch)  : Cv kX11_addNeeds 2 150 zSX [zP 127, zI (s : Int), zI (ch : Int)] μ (fun μ' => μ' = zrow μ 137 (fun x => if x < 6 then μ 137 x + znd D s ch x else μ 137 x)) := by
  refine Ct.of [some (zP 127), some (zI (s : Int)), some (zI (ch : Int)), none, none, none] rfl (Nat.le_of_ble_eq_true rfl) (by decide +kernel) (fun Γ ad hO hR => ?_)
  have hsz := hM.1.2.1 s hs
  obtain ⟨kq, hkq⟩ : ∃ kq : Nat, D 4 s = (kq : Int) := ⟨(D 4 s).toNat, by omega⟩
  refine zY.iconst hO dX11_addNeeds_0 ?_
  refine zY.istore3 (zc1_I _) hO dX11_addNeeds_1 ?_
  have L2 : ∀ i : Nat, i ≤ kq → zY Γ (150, zSX, ad, 0, 0) 2 [some (zP 127), some (zI (s : Int)), some (zI (ch : Int)), some (zI (i : Int)), none, none] [] (zrow μ 137 (fun x => if x < 6 then μ 137 x + zcs D s ch i x else μ 137 x)) := by
    refine zdown (kq) (fun i hi_i ih2 => ?_)
    have hMi : zMd D K0 K1 (zrow μ 137 (fun x => if x < 6 then μ 137 x + zcs D s ch i x else μ 137 x)) := (zScr.rfl'.row (by decide) (by decide) : zScr μ _).md hM
    refine zY.iload_n hO dX11_addNeeds_2 rfl ?_
    refine zY.aload_n hO dX11_addNeeds_3 rfl ?_
    refine zY.getR zfl_X11_22 (by decide : 127 < 150) rfl rfl hO dX11_addNeeds_4 ?_
    refine zY.iload_n hO dX11_addNeeds_7 rfl ?_
    refine zY.iald (s) rfl (by omega) (by decide) (by decide : 132 < 150) rfl hO dX11_addNeeds_8 ?_
    refine zY.as (b := (kq : Int)) ((hMi.2.1.1 4 (by omega) (by omega) s hs).trans hkq) ?_
    refine zY.icmp_ge (tgt := 69) ⟨by omega, by omega⟩ ⟨by omega, by omega⟩ hO dX11_addNeeds_9 (by decide) (fun c9 => ?_) (fun c9 => ?_)
    ·
      exact zY.vret rfl ⟨rfl, (by unfold znd; rw [hkq, Int.toNat_natCast, show i = kq by omega])⟩ hR hO dX11_addNeeds_69
    ·
      refine zY.aload_n hO dX11_addNeeds_12 rfl ?_
      refine zY.iload_n hO dX11_addNeeds_13 rfl ?_
      refine zY.iload_n hO dX11_addNeeds_14 rfl ?_
      refine zY.iload_n hO dX11_addNeeds_15 rfl ?_
      refine zY.callV3iD (ct_X11_wordIn hMi hs (by omega) hc (fun z => ho.2 i (by omega) z)) (by decide) zcal_X11_wordIn zml_X11_146 (by decide : 127 < 150) rfl rfl (Nat.le_of_ble_eq_true rfl) rfl ⟨Nat.zero_le _, Nat.zero_le _⟩ hO dX11_addNeeds_16 ?_
      have hw := zwi_lt (ch := ch) hM.1 hs (i := i) (by omega)
      have hwd := hM.1.1 _ hw
      obtain ⟨lq, hlq⟩ : ∃ lq : Nat, D 1 (zwi D s i ch) = (lq : Int) := ⟨(D 1 (zwi D s i ch)).toNat, by omega⟩
      refine zY.istore4 (zc1_I _) hO dX11_addNeeds_19 ?_
      refine zY.iconst hO dX11_addNeeds_21 ?_
      refine zY.istore5 (zc1_I _) hO dX11_addNeeds_22 ?_
      have L24 : ∀ j : Nat, j ≤ lq → zY Γ (150, zSX, ad, 0, 0) 24 [some (zP 127), some (zI (s : Int)), some (zI (ch : Int)), some (zI (i : Int)), some (zI (zwi D s i ch : Int)), some (zI (j : Int))] [] (zrow μ 137 (fun x => if x < 6 then μ 137 x + zcs D s ch i x + zcw D (zwi D s i ch) j x else μ 137 x)) := by
        refine zdown (lq) (fun j hi_j ih24 => ?_)
        have hMj : zMd D K0 K1 (zrow μ 137 (fun x => if x < 6 then μ 137 x + zcs D s ch i x + zcw D (zwi D s i ch) j x else μ 137 x)) := (zScr.rfl'.row (by decide) (by decide) : zScr μ _).md hM
        refine zY.iload hO dX11_addNeeds_24 rfl ?_
        refine zY.aload_n hO dX11_addNeeds_26 rfl ?_
        refine zY.getR zfl_X11_13 (by decide : 127 < 150) rfl rfl hO dX11_addNeeds_27 ?_
        refine zY.iload hO dX11_addNeeds_30 rfl ?_
        refine zY.iald (zwi D s i ch) rfl (by omega) (by decide) (by decide : 129 < 150) rfl hO dX11_addNeeds_32 ?_
        refine zY.as (b := (lq : Int)) ((hMj.2.1.2.1 1 (by omega) (by omega) _ hw).trans hlq) ?_
        refine zY.icmp_ge (tgt := 63) ⟨by omega, by omega⟩ ⟨by omega, by omega⟩ hO dX11_addNeeds_33 (by decide) (fun c33 => ?_) (fun c33 => ?_)
        ·
          refine zY.iinc3 _ rfl (zc1_I _) hO dX11_addNeeds_63 ?_
          refine zY.goto (tgt := 2) hO dX11_addNeeds_66 (by decide) ?_
          refine zY.none4 ?_
          refine zY.none5 ?_
          have hin := ih2 (by omega)
          rw [show (fun x => if x < 6 then μ 137 x + zcs D s ch i x + zcw D (zwi D s i ch) j x else μ 137 x) = (fun x => if x < 6 then μ 137 x + zcs D s ch (i + 1) x else μ 137 x) by
            funext x
            simp only [zcs]
            rw [hlq, Int.toNat_natCast, show j = lq by omega]
            split
            · omega
            · rfl]
          exact hin
        ·
          refine zY.aload_n hO dX11_addNeeds_36 rfl ?_
          refine zY.getR zfl_X11_37 (by decide : 127 < 150) rfl rfl hO dX11_addNeeds_37 ?_
          refine zY.aload_n hO dX11_addNeeds_40 rfl ?_
          refine zY.getR zfl_X11_7 (by decide : 127 < 150) rfl rfl hO dX11_addNeeds_41 ?_
          refine zY.iconst hO dX11_addNeeds_44 ?_
          refine zY.iload hO dX11_addNeeds_45 rfl ?_
          refine zY.imul hO dX11_addNeeds_47 ?_
          refine zY.iload hO dX11_addNeeds_48 rfl ?_
          refine zY.iadd hO dX11_addNeeds_50 ?_
          have hlt := hwd.2.2.2.2.2 j (by omega)
          obtain ⟨tq, htq⟩ : ∃ tq : Nat, D 0 (5 * zwi D s i ch + j) = (tq : Int) := ⟨(D 0 (5 * zwi D s i ch + j)).toNat, by omega⟩
          refine zY.iald (5 * zwi D s i ch + j) (by omega) (by omega) (by decide) (by decide : 128 < 150) rfl hO dX11_addNeeds_51 ?_
          refine zY.as (b := (tq : Int)) ((hMj.2.1.2.2.1 _ hw j (by omega)).trans htq) ?_
          refine zY.dup2 rfl rfl hO dX11_addNeeds_52 ?_
          refine zY.iald (tq) rfl (by omega) (by decide) (by decide : 137 < 150) rfl hO dX11_addNeeds_53 ?_
          refine zY.iconst hO dX11_addNeeds_54 ?_
          refine zY.iadd hO dX11_addNeeds_55 ?_
          refine zY.iast (tq) rfl (by omega) (by decide) (by decide : 137 < 150) rfl hO dX11_addNeeds_56 ?_
          refine zY.iinc5 _ rfl (zc1_I _) hO dX11_addNeeds_57 ?_
          refine zY.goto (tgt := 24) hO dX11_addNeeds_60 (by decide) ?_
          have hin := ih24 (by omega)
          rw [zwr_row, zrow_eq]
          rw [show (fun j' => if j' = tq then (fun x => if x < 6 then μ 137 x + zcs D s ch i x + zcw D (zwi D s i ch) j x else μ 137 x) tq + 1 else (fun x => if x < 6 then μ 137 x + zcs D s ch i x + zcw D (zwi D s i ch) j x else μ 137 x) j') = (fun x => if x < 6 then μ 137 x + zcs D s ch i x + zcw D (zwi D s i ch) (j + 1) x else μ 137 x) by
            funext x
            simp only [zcw]
            rw [htq]
            by_cases e : x = tq
            · subst e
              rw [if_pos rfl, if_pos (by omega), if_pos (by omega), if_pos rfl]
              omega
            · rw [if_neg e]
              by_cases h6 : x < 6
              · rw [if_pos h6, if_pos h6, if_neg (fun z => e (by omega))]
                omega
              · rw [if_neg h6, if_neg h6]]
          exact hin
      have hin := L24 0 (by omega)
      rw [show (fun x => if x < 6 then μ 137 x + zcs D s ch i x + zcw D (zwi D s i ch) 0 x else μ 137 x) = (fun x => if x < 6 then μ 137 x + zcs D s ch i x else μ 137 x) by funext x; simp [zcw]] at hin
      exact hin
  have hin := L2 0 (by omega)
  rw [zrow_self (fun x => by show (if x < 6 then μ 137 x + zcs D s ch 0 x else μ 137 x) = μ 137 x; simp [zcs])] at hin
  exact hin

set_option maxRecDepth 100000 in
set_option maxHeartbeats 4000000 in
theorem ct_X11_findNeeds {μ : zMem} {D : zBk} {K0 K1 : Option zBk} (hM : zMd D K0 K1 μ) {s ch : Nat} (hs : s < 6) (hc : ch < 64) (ho : zokc D s ch)  : Cv kX11_findNeeds 3 150 zSX [zP 127, zI (s : Int), zI (ch : Int)] μ (fun μ' => ∃ nq, μ' = zrow μ 137 nq ∧ ∀ x, x < 6 → nq x = znd D s ch x) := by
  refine Ct.of [some (zP 127), some (zI (s : Int)), some (zI (ch : Int)), none] rfl (Nat.le_of_ble_eq_true rfl) (by decide +kernel) (fun Γ ad hO hR => ?_)
  refine zY.iconst hO dX11_findNeeds_0 ?_
  refine zY.istore3 (zc1_I _) hO dX11_findNeeds_1 ?_
  have L2 : ∀ i : Nat, i ≤ 6 → ∀ nq : Nat → Int, (∀ x, x < i → nq x = 0) → zY Γ (150, zSX, ad, 0, 0) 2 [some (zP 127), some (zI (s : Int)), some (zI (ch : Int)), some (zI (i : Int))] [] (zrow μ 137 nq) := by
    refine zdown (6) (fun i hi_i ih2 => ?_)
    intro nq hJ
    refine zY.iload_n hO dX11_findNeeds_2 rfl ?_
    refine zY.bipush hO dX11_findNeeds_3 (by decide) ?_
    refine zY.icmp_ge (tgt := 21) ⟨by omega, by omega⟩ ⟨by omega, by omega⟩ hO dX11_findNeeds_5 (by decide) (fun c5 => ?_) (fun c5 => ?_)
    ·
      refine zY.aload_n hO dX11_findNeeds_21 rfl ?_
      refine zY.iload_n hO dX11_findNeeds_22 rfl ?_
      refine zY.iload_n hO dX11_findNeeds_23 rfl ?_
      have hMi : zMd D K0 K1 (zrow μ 137 nq) := (zScr.rfl'.row (by decide) (by decide) : zScr μ _).md hM
      refine zY.callV2vD (ct_X11_addNeeds hMi hs hc ho) (by decide) zcal_X11_addNeeds zml_X11_142 (by decide : 127 < 150) rfl rfl (Nat.le_of_ble_eq_true rfl) rfl ⟨Nat.zero_le _, Nat.zero_le _⟩ hO dX11_findNeeds_24 ?_
      exact zY.vret rfl ⟨rfl, ⟨_, by rw [zrow_row], fun x hx => by rw [if_pos hx, zrow_eq, hJ x (by omega)]; omega⟩⟩ hR hO dX11_findNeeds_27
    ·
      refine zY.aload_n hO dX11_findNeeds_8 rfl ?_
      refine zY.getR zfl_X11_37 (by decide : 127 < 150) rfl rfl hO dX11_findNeeds_9 ?_
      refine zY.iload_n hO dX11_findNeeds_12 rfl ?_
      refine zY.iconst hO dX11_findNeeds_13 ?_
      refine zY.iast (i) rfl (by omega) (by decide) (by decide : 137 < 150) rfl hO dX11_findNeeds_14 ?_
      refine zY.iinc3 _ rfl (zc1_I _) hO dX11_findNeeds_15 ?_
      refine zY.goto (tgt := 2) hO dX11_findNeeds_18 (by decide) ?_
      have hin := ih2 (by omega) (fun x => if x = i then 0 else nq x) (fun x hx => by by_cases e : x = i; (· rw [if_pos e]); (· rw [if_neg e]; exact hJ x (by omega)))
      rw [← zwr_row] at hin
      exact hin
  have hin := L2 0 (by omega) (μ 137) (fun x h => by omega)
  rw [zrow_self (fun _ => rfl)] at hin
  exact hin

set_option maxRecDepth 100000 in
set_option maxHeartbeats 4000000 in
theorem ct_X11_breaksBy {μ : zMem} {D : zBk} {K0 K1 : Option zBk} (hM : zMd D K0 K1 μ) {s ch : Nat} (hs : s < 6) (hc : ch < 64) (ho : zokc D s ch) (h0 : 0 < D 4 s) (hn : ∀ x, x < 6 → μ 137 x = znd D s ch x) : Ci kX11_breaksBy 2 150 zSX [zP 127, zI (s : Int), zI (ch : Int)] μ (fun r μ' => r = zbk D s ch ∧ μ' = μ) := by
  refine Ct.of [some (zP 127), some (zI (s : Int)), some (zI (ch : Int)), none, none, none] rfl (Nat.le_of_ble_eq_true rfl) (by decide +kernel) (fun Γ ad hO hR => ?_)
  have hsz := hM.1.2.1 s hs
  obtain ⟨kq, hkq⟩ : ∃ kq : Nat, D 4 s = (kq : Int) := ⟨(D 4 s).toNat, by omega⟩
  have hlaw : 0 ≤ D 8 1 ∧ D 8 1 ≤ 3 := ⟨hM.1.2.2.2.2.1, hM.1.2.2.2.2.2.1⟩
  have hw0 := zwi_lt (ch := ch) hM.1 hs (i := 0) (by omega)
  have hwk := zwi_lt (ch := ch) hM.1 hs (i := kq - 1) (by omega)
  have hd0 := hM.1.1 _ hw0
  have hdk := hM.1.1 _ hwk
  refine zY.aload_n hO dX11_breaksBy_0 rfl ?_
  refine zY.getI zfl_X11_139 (by decide : 127 < 150) rfl rfl hO dX11_breaksBy_1 ?_
  refine zY.as (b := D 8 1) hM.2.1.2.2.2.2.2 ?_
  refine zY.iconst hO dX11_breaksBy_4 ?_
  refine zY.icmp_ne (tgt := 23) ⟨by omega, by omega⟩ ⟨by omega, by omega⟩ hO dX11_breaksBy_5 (by decide) (fun c5 => ?_) (fun c5 => ?_)
  ·
    refine zY.aload_n hO dX11_breaksBy_23 rfl ?_
    refine zY.getI zfl_X11_139 (by decide : 127 < 150) rfl rfl hO dX11_breaksBy_24 ?_
    refine zY.as (b := D 8 1) hM.2.1.2.2.2.2.2 ?_
    refine zY.iconst hO dX11_breaksBy_27 ?_
    refine zY.icmp_ne (tgt := 64) ⟨by omega, by omega⟩ ⟨by omega, by omega⟩ hO dX11_breaksBy_28 (by decide) (fun c28 => ?_) (fun c28 => ?_)
    ·
      refine zY.bipush hO dX11_breaksBy_64 (by decide) ?_
      refine zY.istore3 (zc1_I _) hO dX11_breaksBy_66 ?_
      refine zY.iconst hO dX11_breaksBy_67 ?_
      refine zY.istore4 (zc1_I _) hO dX11_breaksBy_68 ?_
      have L70 : ∀ i : Nat, i ≤ 6 → zY Γ (150, zSX, ad, 0, 0) 70 [some (zP 127), some (zI (s : Int)), some (zI (ch : Int)), some (zI (zbst (D 8 1) (znd D s ch) i)), some (zI (i : Int)), none] [] μ := by
        refine zdown (6) (fun i hi_i ih70 => ?_)
        have hbb := zbst_b (D 8 1) (znd D s ch) i
        have hni := znd_b (ch := ch) i hM.1 hs
        have hnb := znd_b (ch := ch) (zbst (D 8 1) (znd D s ch) i).toNat hM.1 hs
        refine zY.iload hO dX11_breaksBy_70 rfl ?_
        refine zY.bipush hO dX11_breaksBy_72 (by decide) ?_
        refine zY.icmp_ge (tgt := 158) ⟨by omega, by omega⟩ ⟨by omega, by omega⟩ hO dX11_breaksBy_74 (by decide) (fun c74 => ?_) (fun c74 => ?_)
        ·
          refine zY.iload_n hO dX11_breaksBy_158 rfl ?_
          exact zY.iret rfl ⟨_, rfl, ⟨by unfold zbk; rw [if_neg (by omega), if_neg (by omega), show i = 6 by omega], rfl⟩⟩ hR hO dX11_breaksBy_159
        ·
          have L128 : ∀ eq : Int, ((eq = 1 ∧ ((zbst (D 8 1) (znd D s ch) i) = -6 ∨ (D 8 1 = 0 ∧ znd D s ch (zbst (D 8 1) (znd D s ch) i).toNat < znd D s ch i) ∨ (D 8 1 ≠ 0 ∧ znd D s ch i < znd D s ch (zbst (D 8 1) (znd D s ch) i).toNat))) ∨ (eq = 0 ∧ ¬ ((zbst (D 8 1) (znd D s ch) i) = -6 ∨ (D 8 1 = 0 ∧ znd D s ch (zbst (D 8 1) (znd D s ch) i).toNat < znd D s ch i) ∨ (D 8 1 ≠ 0 ∧ znd D s ch i < znd D s ch (zbst (D 8 1) (znd D s ch) i).toNat)))) → zY Γ (150, zSX, ad, 0, 0) 128 [some (zP 127), some (zI (s : Int)), some (zI (ch : Int)), some (zI (zbst (D 8 1) (znd D s ch) i)), some (zI (i : Int)), none] [zI eq] μ := by
            intro eq heq
            refine zY.istore5 (zc1_I _) hO dX11_breaksBy_128 ?_
            refine zY.aload_n hO dX11_breaksBy_130 rfl ?_
            refine zY.getR zfl_X11_37 (by decide : 127 < 150) rfl rfl hO dX11_breaksBy_131 ?_
            refine zY.iload hO dX11_breaksBy_134 rfl ?_
            refine zY.iald (i) rfl (by omega) (by decide) (by decide : 137 < 150) rfl hO dX11_breaksBy_136 ?_
            refine zY.as (b := znd D s ch i) (hn i (by omega)) ?_
            refine zY.if_le (tgt := 150) ⟨by omega, by omega⟩ hO dX11_breaksBy_137 (by decide) (fun c137 => ?_) (fun c137 => ?_)
            ·
              refine zY.iload_n hO dX11_breaksBy_150 rfl ?_
              refine zY.istore3 (zc1_I _) hO dX11_breaksBy_151 ?_
              refine zY.iinc4 _ rfl (zc1_I _) hO dX11_breaksBy_152 ?_
              refine zY.goto (tgt := 70) hO dX11_breaksBy_155 (by decide) ?_
              refine zY.none5 ?_
              have hin := ih70 (by omega)
              rw [show zbst (D 8 1) (znd D s ch) (i + 1) = (zbst (D 8 1) (znd D s ch) i) by simp only [zbst]; rw [if_neg (fun z => by omega)]] at hin
              exact hin
            ·
              refine zY.iload hO dX11_breaksBy_140 rfl ?_
              refine zY.if_eq (tgt := 150) ⟨by omega, by omega⟩ hO dX11_breaksBy_142 (by decide) (fun c142 => ?_) (fun c142 => ?_)
              ·
                refine zY.iload_n hO dX11_breaksBy_150 rfl ?_
                refine zY.istore3 (zc1_I _) hO dX11_breaksBy_151 ?_
                refine zY.iinc4 _ rfl (zc1_I _) hO dX11_breaksBy_152 ?_
                refine zY.goto (tgt := 70) hO dX11_breaksBy_155 (by decide) ?_
                refine zY.none5 ?_
                have hin := ih70 (by omega)
                rw [show zbst (D 8 1) (znd D s ch) (i + 1) = (zbst (D 8 1) (znd D s ch) i) by simp only [zbst]; rw [if_neg (fun z => by omega)]] at hin
                exact hin
              ·
                refine zY.iload hO dX11_breaksBy_145 rfl ?_
                refine zY.goto (tgt := 151) hO dX11_breaksBy_147 (by decide) ?_
                refine zY.istore3 (zc1_I _) hO dX11_breaksBy_151 ?_
                refine zY.iinc4 _ rfl (zc1_I _) hO dX11_breaksBy_152 ?_
                refine zY.goto (tgt := 70) hO dX11_breaksBy_155 (by decide) ?_
                refine zY.none5 ?_
                have hin := ih70 (by omega)
                rw [show zbst (D 8 1) (znd D s ch) (i + 1) = (i : Int) by simp only [zbst]; rw [if_pos ⟨by omega, by omega⟩]] at hin
                exact hin
          refine zY.iload_n hO dX11_breaksBy_77 rfl ?_
          refine zY.if_lt (tgt := 123) ⟨by omega, by omega⟩ hO dX11_breaksBy_78 (by decide) (fun c78 => ?_) (fun c78 => ?_)
          ·
            refine zY.iconst hO dX11_breaksBy_123 ?_
            refine zY.goto (tgt := 128) hO dX11_breaksBy_124 (by decide) ?_
            exact L128 _ (Or.inl ⟨rfl, by omega⟩)
          ·
            refine zY.aload_n hO dX11_breaksBy_81 rfl ?_
            refine zY.getI zfl_X11_139 (by decide : 127 < 150) rfl rfl hO dX11_breaksBy_82 ?_
            refine zY.as (b := D 8 1) hM.2.1.2.2.2.2.2 ?_
            refine zY.if_ne (tgt := 107) ⟨by omega, by omega⟩ hO dX11_breaksBy_85 (by decide) (fun c85 => ?_) (fun c85 => ?_)
            ·
              refine zY.aload_n hO dX11_breaksBy_107 rfl ?_
              refine zY.getR zfl_X11_37 (by decide : 127 < 150) rfl rfl hO dX11_breaksBy_108 ?_
              refine zY.iload hO dX11_breaksBy_111 rfl ?_
              refine zY.iald (i) rfl (by omega) (by decide) (by decide : 137 < 150) rfl hO dX11_breaksBy_113 ?_
              refine zY.as (b := znd D s ch i) (hn i (by omega)) ?_
              refine zY.aload_n hO dX11_breaksBy_114 rfl ?_
              refine zY.getR zfl_X11_37 (by decide : 127 < 150) rfl rfl hO dX11_breaksBy_115 ?_
              refine zY.iload_n hO dX11_breaksBy_118 rfl ?_
              refine zY.iald ((zbst (D 8 1) (znd D s ch) i).toNat) (by omega) (by omega) (by decide) (by decide : 137 < 150) rfl hO dX11_breaksBy_119 ?_
              refine zY.as (b := znd D s ch (zbst (D 8 1) (znd D s ch) i).toNat) (hn _ (by omega)) ?_
              refine zY.icmp_ge (tgt := 127) ⟨by omega, by omega⟩ ⟨by omega, by omega⟩ hO dX11_breaksBy_120 (by decide) (fun c120 => ?_) (fun c120 => ?_)
              ·
                refine zY.iconst hO dX11_breaksBy_127 ?_
                exact L128 _ (Or.inr ⟨rfl, by omega⟩)
              ·
                refine zY.iconst hO dX11_breaksBy_123 ?_
                refine zY.goto (tgt := 128) hO dX11_breaksBy_124 (by decide) ?_
                exact L128 _ (Or.inl ⟨rfl, by omega⟩)
            ·
              refine zY.aload_n hO dX11_breaksBy_88 rfl ?_
              refine zY.getR zfl_X11_37 (by decide : 127 < 150) rfl rfl hO dX11_breaksBy_89 ?_
              refine zY.iload hO dX11_breaksBy_92 rfl ?_
              refine zY.iald (i) rfl (by omega) (by decide) (by decide : 137 < 150) rfl hO dX11_breaksBy_94 ?_
              refine zY.as (b := znd D s ch i) (hn i (by omega)) ?_
              refine zY.aload_n hO dX11_breaksBy_95 rfl ?_
              refine zY.getR zfl_X11_37 (by decide : 127 < 150) rfl rfl hO dX11_breaksBy_96 ?_
              refine zY.iload_n hO dX11_breaksBy_99 rfl ?_
              refine zY.iald ((zbst (D 8 1) (znd D s ch) i).toNat) (by omega) (by omega) (by decide) (by decide : 137 < 150) rfl hO dX11_breaksBy_100 ?_
              refine zY.as (b := znd D s ch (zbst (D 8 1) (znd D s ch) i).toNat) (hn _ (by omega)) ?_
              refine zY.icmp_le (tgt := 127) ⟨by omega, by omega⟩ ⟨by omega, by omega⟩ hO dX11_breaksBy_101 (by decide) (fun c101 => ?_) (fun c101 => ?_)
              ·
                refine zY.iconst hO dX11_breaksBy_127 ?_
                exact L128 _ (Or.inr ⟨rfl, by omega⟩)
              ·
                refine zY.goto (tgt := 123) hO dX11_breaksBy_104 (by decide) ?_
                refine zY.iconst hO dX11_breaksBy_123 ?_
                refine zY.goto (tgt := 128) hO dX11_breaksBy_124 (by decide) ?_
                exact L128 _ (Or.inl ⟨rfl, by omega⟩)
      exact L70 0 (by omega)
    ·
      refine zY.aload_n hO dX11_breaksBy_31 rfl ?_
      refine zY.iload_n hO dX11_breaksBy_32 rfl ?_
      refine zY.aload_n hO dX11_breaksBy_33 rfl ?_
      refine zY.getR zfl_X11_22 (by decide : 127 < 150) rfl rfl hO dX11_breaksBy_34 ?_
      refine zY.iload_n hO dX11_breaksBy_37 rfl ?_
      refine zY.iald (s) rfl (by omega) (by decide) (by decide : 132 < 150) rfl hO dX11_breaksBy_38 ?_
      refine zY.as (b := (kq : Int)) ((hM.2.1.1 4 (by omega) (by omega) s hs).trans hkq) ?_
      refine zY.iconst hO dX11_breaksBy_39 ?_
      refine zY.isub hO dX11_breaksBy_40 ?_
      refine zY.iload_n hO dX11_breaksBy_41 rfl ?_
      refine zY.as2 (b := ((kq - 1 : Nat) : Int)) (by omega) ?_
      refine zY.callV3iD (ct_X11_wordIn (i := kq - 1) hM hs (by omega) hc (fun z => ho.2 _ (by omega) z)) (by decide) zcal_X11_wordIn zml_X11_146 (by decide : 127 < 150) rfl rfl (Nat.le_of_ble_eq_true rfl) rfl ⟨Nat.zero_le _, Nat.zero_le _⟩ hO dX11_breaksBy_42 ?_
      refine zY.istore3 (zc1_I _) hO dX11_breaksBy_45 ?_
      refine zY.aload_n hO dX11_breaksBy_46 rfl ?_
      refine zY.getR zfl_X11_7 (by decide : 127 < 150) rfl rfl hO dX11_breaksBy_47 ?_
      refine zY.iconst hO dX11_breaksBy_50 ?_
      refine zY.iload_n hO dX11_breaksBy_51 rfl ?_
      refine zY.imul hO dX11_breaksBy_52 ?_
      refine zY.aload_n hO dX11_breaksBy_53 rfl ?_
      refine zY.getR zfl_X11_13 (by decide : 127 < 150) rfl rfl hO dX11_breaksBy_54 ?_
      refine zY.iload_n hO dX11_breaksBy_57 rfl ?_
      refine zY.iald (zwi D s (kq - 1) ch) rfl (by omega) (by decide) (by decide : 129 < 150) rfl hO dX11_breaksBy_58 ?_
      refine zY.as (b := D 1 (zwi D s (kq - 1) ch)) (hM.2.1.2.1 1 (by omega) (by omega) _ hwk) ?_
      refine zY.iadd hO dX11_breaksBy_59 ?_
      refine zY.iconst hO dX11_breaksBy_60 ?_
      refine zY.isub hO dX11_breaksBy_61 ?_
      refine zY.iald (5 * zwi D s (kq - 1) ch + ((D 1 (zwi D s (kq - 1) ch)).toNat - 1)) (by omega) (by omega) (by decide) (by decide : 128 < 150) rfl hO dX11_breaksBy_62 ?_
      exact zY.iret rfl ⟨_, rfl, ⟨by unfold zbk zll; rw [if_neg (by omega), if_pos c28, hkq, Int.toNat_natCast]; exact hM.2.1.2.2.1 _ hwk _ (by omega), rfl⟩⟩ hR hO dX11_breaksBy_63
  ·
    refine zY.aload_n hO dX11_breaksBy_8 rfl ?_
    refine zY.getR zfl_X11_7 (by decide : 127 < 150) rfl rfl hO dX11_breaksBy_9 ?_
    refine zY.iconst hO dX11_breaksBy_12 ?_
    refine zY.aload_n hO dX11_breaksBy_13 rfl ?_
    refine zY.iload_n hO dX11_breaksBy_14 rfl ?_
    refine zY.iconst hO dX11_breaksBy_15 ?_
    refine zY.iload_n hO dX11_breaksBy_16 rfl ?_
    refine zY.callV3iD (ct_X11_wordIn (i := 0) hM hs (by omega) hc (fun z => ho.2 0 (by omega) z)) (by decide) zcal_X11_wordIn zml_X11_146 (by decide : 127 < 150) rfl rfl (Nat.le_of_ble_eq_true rfl) rfl ⟨Nat.zero_le _, Nat.zero_le _⟩ hO dX11_breaksBy_17 ?_
    refine zY.imul hO dX11_breaksBy_20 ?_
    refine zY.iald (5 * zwi D s 0 ch) (by omega) (by omega) (by decide) (by decide : 128 < 150) rfl hO dX11_breaksBy_21 ?_
    exact zY.iret rfl ⟨_, rfl, ⟨by unfold zbk; rw [if_pos c5]; exact hM.2.1.2.2.1 _ hw0 0 (by omega), rfl⟩⟩ hR hO dX11_breaksBy_22

set_option maxRecDepth 100000 in
set_option maxHeartbeats 4000000 in
theorem ct_X11_breaksOf {μ : zMem} {D : zBk} {K0 K1 : Option zBk} (hM : zMd D K0 K1 μ) {s : Nat} (hs : s < 6) (h0 : 0 < D 4 s) : Ci kX11_breaksOf 4 150 zSX [zP 127, zI (s : Int)] μ (fun r μ' => r = zbk D s 0 ∧ ∃ nq, μ' = zrow μ 137 nq ∧ ∀ x, x < 6 → nq x = znd D s 0 x) := by
  refine Ct.of [some (zP 127), some (zI (s : Int))] rfl (Nat.le_of_ble_eq_true rfl) (by decide +kernel) (fun Γ ad hO hR => ?_)
  refine zY.aload_n hO dX11_breaksOf_0 rfl ?_
  refine zY.iload_n hO dX11_breaksOf_1 rfl ?_
  refine zY.iconst hO dX11_breaksOf_2 ?_
  refine zY.callV2v (ct_X11_findNeeds (ch := 0) hM hs (by omega) (zokc_0 D s)) (by decide) zcal_X11_findNeeds zml_X11_149 (by decide : 127 < 150) rfl rfl (Nat.le_of_ble_eq_true rfl) rfl ⟨Nat.zero_le _, Nat.zero_le _⟩ hO dX11_breaksOf_3 (fun μ1 hq1 => ?_)
  obtain ⟨nq, hq1, hq2⟩ := hq1
  have hM1 : zMd D K0 K1 μ1 := by rw [hq1]; exact (zScr.rfl'.row (by decide) (by decide) : zScr μ _).md hM
  refine zY.aload_n hO dX11_breaksOf_6 rfl ?_
  refine zY.iload_n hO dX11_breaksOf_7 rfl ?_
  refine zY.iconst hO dX11_breaksOf_8 ?_
  refine zY.callV2iD (ct_X11_breaksBy (ch := 0) hM1 hs (by omega) (zokc_0 D s) h0 (fun x hx => by rw [hq1, zrow_eq]; exact hq2 x hx)) (by decide) zcal_X11_breaksBy zml_X11_152 (by decide : 127 < 150) rfl rfl (Nat.le_of_ble_eq_true rfl) rfl ⟨Nat.zero_le _, Nat.zero_le _⟩ hO dX11_breaksOf_9 ?_
  exact zY.iret rfl ⟨_, rfl, ⟨rfl, nq, hq1, hq2⟩⟩ hR hO dX11_breaksOf_12

set_option maxRecDepth 100000 in
set_option maxHeartbeats 4000000 in
theorem ct_X11_needs {μ : zMem} {D : zBk} {K0 K1 : Option zBk} (hM : zMd D K0 K1 μ) {s x : Int} (hs : zr s) (hx : zr x) : Ci kX11_needs 5 150 zSX [zP 127, zI s, zI x] μ (fun a μ' => a = zA_needs D s x ∧ zScr μ μ') := by
  refine Ct.of [some (zP 127), some (zI s), some (zI x)] rfl (Nat.le_of_ble_eq_true rfl) (by decide +kernel) (fun Γ ad hO hR => ?_)
  refine zY.iload_n hO dX11_needs_0 rfl ?_
  refine zY.callS1iD (ct_X11_isSheet hs) (by decide) zcal_X11_isSheet zml_X11_120 (Nat.le_of_ble_eq_true rfl) rfl ⟨Nat.zero_le _, Nat.zero_le _⟩ hO dX11_needs_1 ?_
  refine zY.if_eq (tgt := 19) zr_b hO dX11_needs_4 (by decide) (fun c4 => ?_) (fun c4 => ?_)
  ·
    replace c4 := zb0.mp c4
    refine zY.iconst hO dX11_needs_19 ?_
    exact zY.iret rfl ⟨_, rfl, ⟨by unfold zA_needs; rw [if_neg (fun z => by omega)], zScr.rfl'⟩⟩ hR hO dX11_needs_20
  ·
    replace c4 := zb1.mp c4
    obtain ⟨sq, hsq⟩ : ∃ sq : Nat, s = (sq : Int) := ⟨s.toNat, by omega⟩
    subst hsq
    refine zY.iload_n hO dX11_needs_7 rfl ?_
    refine zY.iconst hO dX11_needs_8 ?_
    refine zY.icmp_eq (tgt := 21) hx ⟨by omega, by omega⟩ hO dX11_needs_9 (by decide) (fun c9 => ?_) (fun c9 => ?_)
    ·
      refine zY.iload_n hO dX11_needs_21 rfl ?_
      refine zY.iconst hO dX11_needs_22 ?_
      refine zY.icmp_ne (tgt := 46) hx ⟨by omega, by omega⟩ hO dX11_needs_23 (by decide) (fun c23 => ?_) (fun c23 => ?_)
      ·
        obtain ⟨xq, hxq⟩ : ∃ xq : Nat, x = (xq : Int) := ⟨x.toNat, by omega⟩
        refine zY.aload_n hO dX11_needs_46 rfl ?_
        refine zY.iload_n hO dX11_needs_47 rfl ?_
        refine zY.iconst hO dX11_needs_48 ?_
        refine zY.callV2v (ct_X11_findNeeds (ch := 0) hM (s := sq) (by omega) (by omega) (zokc_0 D sq)) (by decide) zcal_X11_findNeeds zml_X11_149 (by decide : 127 < 150) rfl rfl (Nat.le_of_ble_eq_true rfl) rfl ⟨Nat.zero_le _, Nat.zero_le _⟩ hO dX11_needs_49 (fun μ3 hq4 => ?_)
        obtain ⟨n3q, hq5, hq6⟩ := hq4
        refine zY.aload_n hO dX11_needs_52 rfl ?_
        refine zY.getR zfl_X11_37 (by decide : 127 < 150) rfl rfl hO dX11_needs_53 ?_
        refine zY.iload_n hO dX11_needs_56 rfl ?_
        refine zY.iald (xq) hxq (by omega) (by decide) (by decide : 137 < 150) rfl hO dX11_needs_57 ?_
        exact zY.iret rfl ⟨_, rfl, ⟨by unfold zA_needs; rw [if_pos ⟨c4, by omega⟩, if_neg (by omega), hxq, Int.toNat_natCast, Int.toNat_natCast, hq5, zrow_eq]; exact hq6 xq (by omega), by rw [hq5]; exact zScr.rfl'.row (by decide) (by decide)⟩⟩ hR hO dX11_needs_58
      ·
        refine zY.aload_n hO dX11_needs_26 rfl ?_
        refine zY.getR zfl_X11_22 (by decide : 127 < 150) rfl rfl hO dX11_needs_27 ?_
        refine zY.iload_n hO dX11_needs_30 rfl ?_
        refine zY.iald (sq) rfl (by omega) (by decide) (by decide : 132 < 150) rfl hO dX11_needs_31 ?_
        have hsz := hM.1.2.1 sq (by omega)
        refine zY.as (b := D 4 sq) (hM.2.1.1 4 (by omega) (by omega) sq (by omega)) ?_
        refine zY.if_ne (tgt := 40) ⟨by omega, by omega⟩ hO dX11_needs_32 (by decide) (fun c32 => ?_) (fun c32 => ?_)
        ·
          refine zY.aload_n hO dX11_needs_40 rfl ?_
          refine zY.iload_n hO dX11_needs_41 rfl ?_
          refine zY.callV1i (ct_X11_breaksOf hM (s := sq) (by omega) (by omega)) (by decide) zcal_X11_breaksOf zml_X11_156 (by decide : 127 < 150) rfl rfl (Nat.le_of_ble_eq_true rfl) rfl ⟨Nat.zero_le _, Nat.zero_le _⟩ hO dX11_needs_42 (fun aq μ3 hq4 => ?_)
          obtain ⟨rfl, n3q, hq5, hq6⟩ := hq4
          exact zY.iret rfl ⟨_, rfl, ⟨by unfold zA_needs; rw [if_pos ⟨c4, by omega⟩, if_pos (by omega), Int.toNat_natCast, zbx_0 (by omega)], by rw [hq5]; exact zScr.rfl'.row (by decide) (by decide)⟩⟩ hR hO dX11_needs_45
        ·
          refine zY.bipush hO dX11_needs_35 (by decide) ?_
          refine zY.goto (tgt := 45) hO dX11_needs_37 (by decide) ?_
          exact zY.iret rfl ⟨_, rfl, ⟨by unfold zA_needs; rw [if_pos ⟨c4, by omega⟩, if_pos (by omega), Int.toNat_natCast, zbx_n (by omega)], zScr.rfl'⟩⟩ hR hO dX11_needs_45
    ·
      refine zY.iload_n hO dX11_needs_12 rfl ?_
      refine zY.callS1iD (ct_X11_isSort hx) (by decide) zcal_X11_isSort zml_X11_125 (Nat.le_of_ble_eq_true rfl) rfl ⟨Nat.zero_le _, Nat.zero_le _⟩ hO dX11_needs_13 ?_
      refine zY.if_ne (tgt := 21) zr_b hO dX11_needs_16 (by decide) (fun c16 => ?_) (fun c16 => ?_)
      ·
        replace c16 := zb1.mp c16
        refine zY.iload_n hO dX11_needs_21 rfl ?_
        refine zY.iconst hO dX11_needs_22 ?_
        refine zY.icmp_ne (tgt := 46) hx ⟨by omega, by omega⟩ hO dX11_needs_23 (by decide) (fun c23 => ?_) (fun c23 => ?_)
        ·
          obtain ⟨xq, hxq⟩ : ∃ xq : Nat, x = (xq : Int) := ⟨x.toNat, by omega⟩
          refine zY.aload_n hO dX11_needs_46 rfl ?_
          refine zY.iload_n hO dX11_needs_47 rfl ?_
          refine zY.iconst hO dX11_needs_48 ?_
          refine zY.callV2v (ct_X11_findNeeds (ch := 0) hM (s := sq) (by omega) (by omega) (zokc_0 D sq)) (by decide) zcal_X11_findNeeds zml_X11_149 (by decide : 127 < 150) rfl rfl (Nat.le_of_ble_eq_true rfl) rfl ⟨Nat.zero_le _, Nat.zero_le _⟩ hO dX11_needs_49 (fun μ3 hq4 => ?_)
          obtain ⟨n3q, hq5, hq6⟩ := hq4
          refine zY.aload_n hO dX11_needs_52 rfl ?_
          refine zY.getR zfl_X11_37 (by decide : 127 < 150) rfl rfl hO dX11_needs_53 ?_
          refine zY.iload_n hO dX11_needs_56 rfl ?_
          refine zY.iald (xq) hxq (by omega) (by decide) (by decide : 137 < 150) rfl hO dX11_needs_57 ?_
          exact zY.iret rfl ⟨_, rfl, ⟨by unfold zA_needs; rw [if_pos ⟨c4, by omega⟩, if_neg (by omega), hxq, Int.toNat_natCast, Int.toNat_natCast, hq5, zrow_eq]; exact hq6 xq (by omega), by rw [hq5]; exact zScr.rfl'.row (by decide) (by decide)⟩⟩ hR hO dX11_needs_58
        ·
          refine zY.aload_n hO dX11_needs_26 rfl ?_
          refine zY.getR zfl_X11_22 (by decide : 127 < 150) rfl rfl hO dX11_needs_27 ?_
          refine zY.iload_n hO dX11_needs_30 rfl ?_
          refine zY.iald (sq) rfl (by omega) (by decide) (by decide : 132 < 150) rfl hO dX11_needs_31 ?_
          have hsz := hM.1.2.1 sq (by omega)
          refine zY.as (b := D 4 sq) (hM.2.1.1 4 (by omega) (by omega) sq (by omega)) ?_
          refine zY.if_ne (tgt := 40) ⟨by omega, by omega⟩ hO dX11_needs_32 (by decide) (fun c32 => ?_) (fun c32 => ?_)
          ·
            refine zY.aload_n hO dX11_needs_40 rfl ?_
            refine zY.iload_n hO dX11_needs_41 rfl ?_
            refine zY.callV1i (ct_X11_breaksOf hM (s := sq) (by omega) (by omega)) (by decide) zcal_X11_breaksOf zml_X11_156 (by decide : 127 < 150) rfl rfl (Nat.le_of_ble_eq_true rfl) rfl ⟨Nat.zero_le _, Nat.zero_le _⟩ hO dX11_needs_42 (fun aq μ3 hq4 => ?_)
            obtain ⟨rfl, n3q, hq5, hq6⟩ := hq4
            exact zY.iret rfl ⟨_, rfl, ⟨by unfold zA_needs; rw [if_pos ⟨c4, by omega⟩, if_pos (by omega), Int.toNat_natCast, zbx_0 (by omega)], by rw [hq5]; exact zScr.rfl'.row (by decide) (by decide)⟩⟩ hR hO dX11_needs_45
          ·
            refine zY.bipush hO dX11_needs_35 (by decide) ?_
            refine zY.goto (tgt := 45) hO dX11_needs_37 (by decide) ?_
            exact zY.iret rfl ⟨_, rfl, ⟨by unfold zA_needs; rw [if_pos ⟨c4, by omega⟩, if_pos (by omega), Int.toNat_natCast, zbx_n (by omega)], zScr.rfl'⟩⟩ hR hO dX11_needs_45
      ·
        replace c16 := zb0.mp c16
        refine zY.iconst hO dX11_needs_19 ?_
        exact zY.iret rfl ⟨_, rfl, ⟨by unfold zA_needs; rw [if_neg (fun z => by omega)], zScr.rfl'⟩⟩ hR hO dX11_needs_20

set_option maxRecDepth 100000 in
set_option maxHeartbeats 4000000 in
theorem ct_X11_openCase {μ : zMem} {D : zBk} {K0 K1 : Option zBk} (hM : zMd D K0 K1 μ)  : Cv kX11_openCase 1 150 zSX [zP 127] μ (fun μ' => ∃ h, μ' = zrow μ 138 h ∧ ∀ x, x < 6 → h x = D 5 x) := by
  refine Ct.of [some (zP 127), none] rfl (Nat.le_of_ble_eq_true rfl) (by decide +kernel) (fun Γ ad hO hR => ?_)
  refine zY.iconst hO dX11_openCase_0 ?_
  refine zY.istore1 (zc1_P _) hO dX11_openCase_1 ?_
  have L2 : ∀ i : Nat, i ≤ 6 → ∀ hq : Nat → Int, (∀ x, x < i → hq x = D 5 x) → zY Γ (150, zSX, ad, 0, 0) 2 [some (zP 127), some (zI (i : Int))] [] (zrow μ 138 hq) := by
    refine zdown (6) (fun i hi_i ih2 => ?_)
    intro hq hJ
    refine zY.iload_n hO dX11_openCase_2 rfl ?_
    refine zY.bipush hO dX11_openCase_3 (by decide) ?_
    refine zY.icmp_ge (tgt := 26) ⟨by omega, by omega⟩ ⟨by omega, by omega⟩ hO dX11_openCase_5 (by decide) (fun c5 => ?_) (fun c5 => ?_)
    ·
      exact zY.vret rfl ⟨rfl, ⟨hq, rfl, fun x hx => hJ x (by omega)⟩⟩ hR hO dX11_openCase_26
    ·
      refine zY.aload_n hO dX11_openCase_8 rfl ?_
      refine zY.getR zfl_X11_40 (by decide : 127 < 150) rfl rfl hO dX11_openCase_9 ?_
      refine zY.iload_n hO dX11_openCase_12 rfl ?_
      refine zY.aload_n hO dX11_openCase_13 rfl ?_
      refine zY.getR zfl_X11_25 (by decide : 127 < 150) rfl rfl hO dX11_openCase_14 ?_
      refine zY.iload_n hO dX11_openCase_17 rfl ?_
      refine zY.iald (i) rfl (by omega) (by decide) (by decide : 133 < 150) rfl hO dX11_openCase_18 ?_
      refine zY.as (b := D 5 i) (by rw [zrow_ne (by decide)]; exact hM.2.1.1 5 (by omega) (by omega) i (by omega)) ?_
      refine zY.iast (i) rfl (by omega) (by decide) (by decide : 138 < 150) rfl hO dX11_openCase_19 ?_
      refine zY.iinc1 _ rfl (zc1_P _) hO dX11_openCase_20 ?_
      refine zY.goto (tgt := 2) hO dX11_openCase_23 (by decide) ?_
      have hin := ih2 (by omega) (fun x => if x = i then D 5 i else hq x) (fun x hx => by by_cases e : x = i; (· rw [if_pos e, e]); (· rw [if_neg e]; exact hJ x (by omega)))
      rw [← zwr_row] at hin
      exact hin
  have hin := L2 0 (by omega) (μ 138) (fun x h => by omega)
  rw [zrow_self (fun _ => rfl)] at hin
  exact hin

set_option maxRecDepth 100000 in
set_option maxHeartbeats 4000000 in
theorem ct_X11_lose {μ : zMem} {x : Nat} (hx : x < 6) (hr : 0 ≤ μ 138 x ∧ μ 138 x ≤ 1000) : Cv kX11_lose 1 150 zSX [zP 127, zI (x : Int)] μ (fun μ' => μ' = zrow μ 138 (zls (μ 138) (x : Int))) := by
  refine Ct.of [some (zP 127), some (zI (x : Int))] rfl (Nat.le_of_ble_eq_true rfl) (by decide +kernel) (fun Γ ad hO hR => ?_)
  refine zY.aload_n hO dX11_lose_0 rfl ?_
  refine zY.getR zfl_X11_40 (by decide : 127 < 150) rfl rfl hO dX11_lose_1 ?_
  refine zY.iload_n hO dX11_lose_4 rfl ?_
  refine zY.aload_n hO dX11_lose_5 rfl ?_
  refine zY.getR zfl_X11_40 (by decide : 127 < 150) rfl rfl hO dX11_lose_6 ?_
  refine zY.iload_n hO dX11_lose_9 rfl ?_
  refine zY.iald (x) rfl (by omega) (by decide) (by decide : 138 < 150) rfl hO dX11_lose_10 ?_
  refine zY.if_le (tgt := 25) ⟨by omega, by omega⟩ hO dX11_lose_11 (by decide) (fun c11 => ?_) (fun c11 => ?_)
  ·
    refine zY.iconst hO dX11_lose_25 ?_
    refine zY.iast (x) rfl (by omega) (by decide) (by decide : 138 < 150) rfl hO dX11_lose_26 ?_
    exact zY.vret rfl ⟨rfl, (by show _ = _; rw [zwr_eq_row]; congr 1; funext j; unfold zls; by_cases e : j = x; (· subst e; rw [if_pos rfl]; rw [if_neg (fun z => by omega)]; omega); (· rw [if_neg e, if_neg (fun z => by omega)]))⟩ hR hO dX11_lose_27
  ·
    refine zY.aload_n hO dX11_lose_14 rfl ?_
    refine zY.getR zfl_X11_40 (by decide : 127 < 150) rfl rfl hO dX11_lose_15 ?_
    refine zY.iload_n hO dX11_lose_18 rfl ?_
    refine zY.iald (x) rfl (by omega) (by decide) (by decide : 138 < 150) rfl hO dX11_lose_19 ?_
    refine zY.iconst hO dX11_lose_20 ?_
    refine zY.isub hO dX11_lose_21 ?_
    refine zY.goto (tgt := 26) hO dX11_lose_22 (by decide) ?_
    refine zY.iast (x) rfl (by omega) (by decide) (by decide : 138 < 150) rfl hO dX11_lose_26 ?_
    exact zY.vret rfl ⟨rfl, (by show _ = _; rw [zwr_eq_row]; congr 1; funext j; unfold zls; by_cases e : j = x; (· subst e; rw [if_pos rfl]; rw [if_pos ⟨rfl, by omega⟩]); (· rw [if_neg e, if_neg (fun z => by omega)]))⟩ hR hO dX11_lose_27

set_option maxRecDepth 100000 in
set_option maxHeartbeats 4000000 in
theorem ct_X11_lacking {μ : zMem} {A F : Nat → Int} (hA : ∀ x, x < 6 → μ 137 x = A x) (hF : ∀ x, x < 6 → μ 138 x = F x) (hr : ∀ x, x < 6 → -1000 ≤ A x ∧ A x ≤ 1000 ∧ -1000 ≤ F x ∧ F x ≤ 1000) : Ci kX11_lacking 1 150 zSX [zP 127] μ (fun r μ' => r = zfst (fun x => decide (F x < A x)) 0 6 ∧ μ' = μ) := by
  refine Ct.of [some (zP 127), none] rfl (Nat.le_of_ble_eq_true rfl) (by decide +kernel) (fun Γ ad hO hR => ?_)
  refine zY.iconst hO dX11_lacking_0 ?_
  refine zY.istore1 (zc1_P _) hO dX11_lacking_1 ?_
  have L2 : ∀ i : Nat, i ≤ 6 → zfst (fun x => decide (F x < A x)) 0 6 = zfst (fun x => decide (F x < A x)) i (6 - i) → zY Γ (150, zSX, ad, 0, 0) 2 [some (zP 127), some (zI (i : Int))] [] μ := by
    refine zdown (6) (fun i hi_i ih2 => ?_)
    intro hV
    refine zY.iload_n hO dX11_lacking_2 rfl ?_
    refine zY.bipush hO dX11_lacking_3 (by decide) ?_
    refine zY.icmp_ge (tgt := 31) ⟨by omega, by omega⟩ ⟨by omega, by omega⟩ hO dX11_lacking_5 (by decide) (fun c5 => ?_) (fun c5 => ?_)
    ·
      refine zY.bipush hO dX11_lacking_31 (by decide) ?_
      exact zY.iret rfl ⟨_, rfl, ⟨by rw [hV, show i = 6 by omega, zfst_end], rfl⟩⟩ hR hO dX11_lacking_33
    ·
      refine zY.aload_n hO dX11_lacking_8 rfl ?_
      refine zY.getR zfl_X11_37 (by decide : 127 < 150) rfl rfl hO dX11_lacking_9 ?_
      refine zY.iload_n hO dX11_lacking_12 rfl ?_
      refine zY.iald (i) rfl (by omega) (by decide) (by decide : 137 < 150) rfl hO dX11_lacking_13 ?_
      have hri := hr i (by omega)
      refine zY.as (b := A i) (hA i (by omega)) ?_
      refine zY.aload_n hO dX11_lacking_14 rfl ?_
      refine zY.getR zfl_X11_40 (by decide : 127 < 150) rfl rfl hO dX11_lacking_15 ?_
      refine zY.iload_n hO dX11_lacking_18 rfl ?_
      refine zY.iald (i) rfl (by omega) (by decide) (by decide : 138 < 150) rfl hO dX11_lacking_19 ?_
      refine zY.as (b := F i) (hF i (by omega)) ?_
      refine zY.icmp_le (tgt := 25) ⟨by omega, by omega⟩ ⟨by omega, by omega⟩ hO dX11_lacking_20 (by decide) (fun c20 => ?_) (fun c20 => ?_)
      ·
        refine zY.iinc1 _ rfl (zc1_P _) hO dX11_lacking_25 ?_
        refine zY.goto (tgt := 2) hO dX11_lacking_28 (by decide) ?_
        exact ih2 (by omega) (by rw [hV, zfst_go (by omega) (by rw [decide_eq_true_eq]; omega)])
      ·
        refine zY.iload_n hO dX11_lacking_23 rfl ?_
        exact zY.iret rfl ⟨_, rfl, ⟨by rw [hV, zfst_hit (by omega) (decide_eq_true (by omega))], rfl⟩⟩ hR hO dX11_lacking_24
  exact L2 0 (by omega) rfl

set_option maxRecDepth 100000 in
set_option maxHeartbeats 4000000 in
theorem ct_X11_sheetAt {μ : zMem} {D : zBk} {K0 K1 : Option zBk} (hM : zMd D K0 K1 μ) {i : Nat} (hi : i < 14) : Ci kX11_sheetAt 1 150 zSX [zP 127, zI (i : Int)] μ (fun r μ' => r = D 9 i - 48 ∧ μ' = μ) := by
  refine Ct.of [some (zP 127), some (zI (i : Int))] rfl (Nat.le_of_ble_eq_true rfl) (by decide +kernel) (fun Γ ad hO hR => ?_)
  refine zY.aload_n hO dX11_sheetAt_0 rfl ?_
  refine zY.getR zfl_X11_34 (by decide : 127 < 150) rfl rfl hO dX11_sheetAt_1 ?_
  refine zY.iload_n hO dX11_sheetAt_4 rfl ?_
  refine zY.iald (i) rfl (by omega) (by decide) (by decide : 136 < 150) rfl hO dX11_sheetAt_5 ?_
  refine zY.as (b := D 9 i) (hM.2.2.1.1 i hi) ?_
  refine zY.bipush hO dX11_sheetAt_6 (by decide) ?_
  refine zY.isub hO dX11_sheetAt_8 ?_
  exact zY.iret rfl ⟨_, rfl, ⟨rfl, rfl⟩⟩ hR hO dX11_sheetAt_9
