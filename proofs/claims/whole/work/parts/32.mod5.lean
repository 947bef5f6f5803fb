/-! the model: word, sheet, set, told -/
theorem zMd_word {D : zBk} {K0 K1 : Option zBk} {μ : zMem} {w : Nat} {lq : Nat → Int} (hM : zMd D K0 K1 μ) (hw : w < 10) (hf : zflt D 0 = -6) (hl : ∀ j, lq j = if 5 * w ≤ j ∧ j < 5 * w + zN D then D 9 (j - 5 * w) - 97 else μ 128 j) : zMd (zU_word D (w : Int)) K0 K1 (zwr (zrow (zwr μ 129 w (zN D : Int)) 128 lq) 127 11 0) := by
  have hW2 := zWF_word hM.1 (w : Int)
  obtain ⟨hW, hS, hP, hI0, hI1⟩ := hM
  have hz := zN_eq hW
  have hk2 := (zf1_ok (D := D) (lo := 97) (hi := 102) (most := 5) (by have := hf; unfold zflt at this; rwa [if_pos rfl] at this)).2.1
  have hU : zU_word D (w : Int) = (fun t k => if t = 10 ∧ k = 0 then 0 else if t = 1 ∧ k = w then D 10 0 else if t = 0 ∧ 5 * w ≤ k ∧ k < 5 * w + zN D then D 9 (k - 5 * w) - 97 else D t k) := by
    unfold zU_word
    rw [if_pos ⟨⟨by omega, by omega⟩, hf⟩, Int.toNat_natCast]
  rw [hU] at hW2 ⊢
  have hr : ∀ q, q ≠ 127 → q ≠ 128 → q ≠ 129 → zwr (zrow (zwr μ 129 w (zN D : Int)) 128 lq) 127 11 0 q = μ q := fun q h1 h2 h3 => by rw [zwr_ne h1, zrow_ne h2, zwr_ne h3]
  have hfl : ∀ j, j ≠ 11 → zwr (zrow (zwr μ 129 w (zN D : Int)) 128 lq) 127 11 0 127 j = μ 127 j := fun j h => by simp [zwr, zrow, h]
  refine ⟨hW2, ⟨fun t a b s hs => ?_, fun t a b v hv => ?_, fun v hv i hi => ?_, fun s hs i hi => ?_, ?_, ?_⟩, ⟨fun j hj => ?_, ?_⟩, hI0.keep (hr _ (by omega) (by omega) (by omega)) (hr _ (by omega) (by omega) (by omega)), hI1.keep (hr _ (by omega) (by omega) (by omega)) (hr _ (by omega) (by omega) (by omega))⟩
  · rw [hr _ (by omega) (by omega) (by omega)]
    show μ (128 + t) s = (if t = 10 ∧ s = 0 then 0 else if t = 1 ∧ s = w then D 10 0 else if t = 0 ∧ 5 * w ≤ s ∧ s < 5 * w + zN D then D 9 (s - 5 * w) - 97 else D t s)
    rw [if_neg (by omega), if_neg (by omega), if_neg (by omega)]
    exact hS.1 t a b s hs
  · show _ = (if t = 10 ∧ v = 0 then 0 else if t = 1 ∧ v = w then D 10 0 else if t = 0 ∧ 5 * w ≤ v ∧ v < 5 * w + zN D then D 9 (v - 5 * w) - 97 else D t v)
    rw [if_neg (by omega), zwr_ne (by omega), zrow_ne (by omega)]
    by_cases e : t = 1 ∧ v = w
    · rw [if_pos e]
      obtain ⟨rfl, rfl⟩ := e
      simp [zwr]
      omega
    · rw [if_neg e, if_neg (by omega)]
      have hz2 : zwr μ 129 w (zN D : Int) (128 + t) v = μ (128 + t) v := by
        simp only [zwr]
        by_cases e1 : 128 + t = 129
        · rw [if_pos e1, if_neg (fun z => e ⟨by omega, z⟩)]
        · rw [if_neg e1]
      rw [hz2]
      exact hS.2.1 t a b v hv
  · have hi2 : (i : Int) < (if v = w then D 10 0 else D 1 v) := by
      have hi3 : (i : Int) < (if (1 : Nat) = 10 ∧ v = 0 then 0 else if (1 : Nat) = 1 ∧ v = w then D 10 0 else if (1 : Nat) = 0 ∧ 5 * w ≤ v ∧ v < 5 * w + zN D then D 9 (v - 5 * w) - 97 else D 1 v) := hi
      rw [if_neg (by omega)] at hi3
      by_cases e : v = w
      · rw [if_pos e]; rw [if_pos ⟨rfl, e⟩] at hi3; exact hi3
      · rw [if_neg e]; rw [if_neg (fun z => e z.2), if_neg (by omega)] at hi3; exact hi3
    show _ = (if (0 : Nat) = 10 ∧ 5 * v + i = 0 then 0 else if (0 : Nat) = 1 ∧ 5 * v + i = w then D 10 0 else if (0 : Nat) = 0 ∧ 5 * w ≤ 5 * v + i ∧ 5 * v + i < 5 * w + zN D then D 9 (5 * v + i - 5 * w) - 97 else D 0 (5 * v + i))
    rw [if_neg (by omega), if_neg (by omega), zwr_ne (by omega), zrow_eq, hl]
    have hv5 := (hW.1 v hv).2.1
    by_cases e : v = w
    · rw [if_pos e] at hi2
      rw [if_pos (by omega), if_pos (by omega)]
    · rw [if_neg e] at hi2
      rw [if_neg (by omega), if_neg (by omega)]
      exact hS.2.2.1 v hv i hi2
  · have hi3 : (i : Int) < (if (4 : Nat) = 10 ∧ s = 0 then 0 else if (4 : Nat) = 1 ∧ s = w then D 10 0 else if (4 : Nat) = 0 ∧ 5 * w ≤ s ∧ s < 5 * w + zN D then D 9 (s - 5 * w) - 97 else D 4 s) := hi
    rw [if_neg (by omega), if_neg (by omega), if_neg (by omega)] at hi3
    rw [hr _ (by omega) (by omega) (by omega)]
    show _ = (if (3 : Nat) = 10 ∧ 6 * s + i = 0 then 0 else if (3 : Nat) = 1 ∧ 6 * s + i = w then D 10 0 else if (3 : Nat) = 0 ∧ 5 * w ≤ 6 * s + i ∧ 6 * s + i < 5 * w + zN D then D 9 (6 * s + i - 5 * w) - 97 else D 3 (6 * s + i))
    rw [if_neg (by omega), if_neg (by omega), if_neg (by omega)]
    exact hS.2.2.2.1 s hs i hi3
  · rw [hfl 8 (by omega)]; simp; exact hS.2.2.2.2.1
  · rw [hfl 9 (by omega)]; simp; exact hS.2.2.2.2.2
  · rw [hr _ (by omega) (by omega) (by omega)]; simp; exact hP.1 j hj
  · simp [zwr]
theorem zMd_sheet {D : zBk} {K0 K1 : Option zBk} {μ : zMem} {s : Nat} {lq : Nat → Int} (hM : zMd D K0 K1 μ) (hs : s < 6) (hf : zflt D 1 = -6) (hl : ∀ j, lq j = if 6 * s ≤ j ∧ j < 6 * s + zN D then D 9 (j - 6 * s) - 48 else μ 131 j) : zMd (zU_sheet D (s : Int)) K0 K1 (zwr (zrow (zwr μ 132 s (zN D : Int)) 131 lq) 127 11 0) := by
  have hW2 := zWF_sheet hM.1 (s : Int)
  obtain ⟨hW, hS, hP, hI0, hI1⟩ := hM
  have hz := zN_eq hW
  have hk2 := (zf1_ok (D := D) (lo := 48) (hi := 57) (most := 6) (by have := hf; unfold zflt at this; rwa [if_neg (by decide), if_pos rfl] at this)).2.1
  have hU : zU_sheet D (s : Int) = (fun t k => if t = 10 ∧ k = 0 then 0 else if t = 4 ∧ k = s then D 10 0 else if t = 3 ∧ 6 * s ≤ k ∧ k < 6 * s + zN D then D 9 (k - 6 * s) - 48 else D t k) := by
    unfold zU_sheet
    rw [if_pos ⟨⟨by omega, by omega⟩, hf⟩, Int.toNat_natCast]
  rw [hU] at hW2 ⊢
  have hr : ∀ q, q ≠ 127 → q ≠ 131 → q ≠ 132 → zwr (zrow (zwr μ 132 s (zN D : Int)) 131 lq) 127 11 0 q = μ q := fun q h1 h2 h3 => by rw [zwr_ne h1, zrow_ne h2, zwr_ne h3]
  have hfl : ∀ j, j ≠ 11 → zwr (zrow (zwr μ 132 s (zN D : Int)) 131 lq) 127 11 0 127 j = μ 127 j := fun j h => by simp [zwr, zrow, h]
  refine ⟨hW2, ⟨fun t a b u hu => ?_, fun t a b v hv => ?_, fun v hv i hi => ?_, fun u hu i hi => ?_, ?_, ?_⟩, ⟨fun j hj => ?_, ?_⟩, hI0.keep (hr _ (by omega) (by omega) (by omega)) (hr _ (by omega) (by omega) (by omega)), hI1.keep (hr _ (by omega) (by omega) (by omega)) (hr _ (by omega) (by omega) (by omega))⟩
  · show _ = (if t = 10 ∧ u = 0 then 0 else if t = 4 ∧ u = s then D 10 0 else if t = 3 ∧ 6 * s ≤ u ∧ u < 6 * s + zN D then D 9 (u - 6 * s) - 48 else D t u)
    rw [if_neg (by omega), zwr_ne (by omega), zrow_ne (by omega)]
    by_cases e : t = 4 ∧ u = s
    · rw [if_pos e]
      obtain ⟨rfl, rfl⟩ := e
      simp [zwr]
      omega
    · rw [if_neg e, if_neg (by omega)]
      have hz2 : zwr μ 132 s (zN D : Int) (128 + t) u = μ (128 + t) u := by
        simp only [zwr]
        by_cases e1 : 128 + t = 132
        · rw [if_pos e1, if_neg (fun z => e ⟨by omega, z⟩)]
        · rw [if_neg e1]
      rw [hz2]
      exact hS.1 t a b u hu
  · rw [hr _ (by omega) (by omega) (by omega)]
    show μ (128 + t) v = (if t = 10 ∧ v = 0 then 0 else if t = 4 ∧ v = s then D 10 0 else if t = 3 ∧ 6 * s ≤ v ∧ v < 6 * s + zN D then D 9 (v - 6 * s) - 48 else D t v)
    rw [if_neg (by omega), if_neg (by omega), if_neg (by omega)]
    exact hS.2.1 t a b v hv
  · have hi3 : (i : Int) < (if (1 : Nat) = 10 ∧ v = 0 then 0 else if (1 : Nat) = 4 ∧ v = s then D 10 0 else if (1 : Nat) = 3 ∧ 6 * s ≤ v ∧ v < 6 * s + zN D then D 9 (v - 6 * s) - 48 else D 1 v) := hi
    rw [if_neg (by omega), if_neg (by omega), if_neg (by omega)] at hi3
    rw [hr _ (by omega) (by omega) (by omega)]
    show _ = (if (0 : Nat) = 10 ∧ 5 * v + i = 0 then 0 else if (0 : Nat) = 4 ∧ 5 * v + i = s then D 10 0 else if (0 : Nat) = 3 ∧ 6 * s ≤ 5 * v + i ∧ 5 * v + i < 6 * s + zN D then D 9 (5 * v + i - 6 * s) - 48 else D 0 (5 * v + i))
    rw [if_neg (by omega), if_neg (by omega), if_neg (by omega)]
    exact hS.2.2.1 v hv i hi3
  · have hi2 : (i : Int) < (if u = s then D 10 0 else D 4 u) := by
      have hi3 : (i : Int) < (if (4 : Nat) = 10 ∧ u = 0 then 0 else if (4 : Nat) = 4 ∧ u = s then D 10 0 else if (4 : Nat) = 3 ∧ 6 * s ≤ u ∧ u < 6 * s + zN D then D 9 (u - 6 * s) - 48 else D 4 u) := hi
      rw [if_neg (by omega)] at hi3
      by_cases e : u = s
      · rw [if_pos e]; rw [if_pos ⟨rfl, e⟩] at hi3; exact hi3
      · rw [if_neg e]; rw [if_neg (fun z => e z.2), if_neg (by omega)] at hi3; exact hi3
    show _ = (if (3 : Nat) = 10 ∧ 6 * u + i = 0 then 0 else if (3 : Nat) = 4 ∧ 6 * u + i = s then D 10 0 else if (3 : Nat) = 3 ∧ 6 * s ≤ 6 * u + i ∧ 6 * u + i < 6 * s + zN D then D 9 (6 * u + i - 6 * s) - 48 else D 3 (6 * u + i))
    rw [if_neg (by omega), if_neg (by omega), zwr_ne (by omega), zrow_eq, hl]
    have hv5 := (hW.2.1 u hu).2.1
    by_cases e : u = s
    · rw [if_pos e] at hi2
      rw [if_pos (by omega), if_pos (by omega)]
    · rw [if_neg e] at hi2
      rw [if_neg (by omega), if_neg (by omega)]
      exact hS.2.2.2.1 u hu i hi2
  · rw [hfl 8 (by omega)]; simp; exact hS.2.2.2.2.1
  · rw [hfl 9 (by omega)]; simp; exact hS.2.2.2.2.2
  · rw [hr _ (by omega) (by omega) (by omega)]; simp; exact hP.1 j hj
  · simp [zwr]

set_option maxRecDepth 100000 in
set_option maxHeartbeats 4000000 in
theorem ct_X11_word {μ : zMem} {D : zBk} {K0 K1 : Option zBk} (hM : zMd D K0 K1 μ) {v : Int} (hv : zr v) : Ci kX11_word 4 150 zSX [zP 127, zI v] μ (fun a μ' => a = zA_word D v ∧ zMd (zU_word D v) K0 K1 μ' ∧ (∀ q, q < 127 → μ' q = μ q)) := by
  refine Ct.of [some (zP 127), some (zI v), none] rfl (Nat.le_of_ble_eq_true rfl) (by decide +kernel) (fun Γ ad hO hR => ?_)
  have hn := zN_eq hM.1
  have hpm := hM.2.2.1.2.trans hn.1
  refine zY.iload_n hO dX11_word_0 rfl ?_
  refine zY.callS1iD (ct_X11_isWord hv) (by decide) zcal_X11_isWord zml_X11_112 (Nat.le_of_ble_eq_true rfl) rfl ⟨Nat.zero_le _, Nat.zero_le _⟩ hO dX11_word_1 ?_
  refine zY.if_ne (tgt := 9) zr_b hO dX11_word_4 (by decide) (fun c4 => ?_) (fun c4 => ?_)
  ·
    replace c4 := zb1.mp c4
    obtain ⟨vq, hvq⟩ : ∃ vq : Nat, v = (vq : Int) := ⟨v.toNat, by omega⟩
    refine zY.aload_n hO dX11_word_9 rfl ?_
    refine zY.iconst hO dX11_word_10 ?_
    refine zY.callV1iD (ct_X11_fault hM ⟨by omega, by omega⟩) (by decide) zcal_X11_fault zml_X11_116 (by decide : 127 < 150) rfl rfl (Nat.le_of_ble_eq_true rfl) rfl ⟨Nat.zero_le _, Nat.zero_le _⟩ hO dX11_word_11 ?_
    have hfn := zflt_n hM.1 0 (by omega) (by omega)
    refine zY.if_lt (tgt := 20) (zflt_b hM.1 0) hO dX11_word_14 (by decide) (fun c14 => ?_) (fun c14 => ?_)
    ·
      have hf : zflt D 0 = -6 := by omega
      have hok := zf1_ok (D := D) (lo := 97) (hi := 102) (most := 5) (by have := hf; unfold zflt at this; rwa [if_pos rfl] at this)
      refine zY.aload_n hO dX11_word_20 rfl ?_
      refine zY.getR zfl_X11_13 (by decide : 127 < 150) rfl rfl hO dX11_word_21 ?_
      refine zY.iload_n hO dX11_word_24 rfl ?_
      refine zY.aload_n hO dX11_word_25 rfl ?_
      refine zY.getI zfl_X11_93 (by decide : 127 < 150) rfl rfl hO dX11_word_26 ?_
      refine zY.as (b := (zN D : Int)) (by  exact hpm) ?_
      refine zY.iast (vq) hvq (by omega) (by decide) (by decide : 129 < 150) rfl hO dX11_word_29 ?_
      refine zY.iconst hO dX11_word_30 ?_
      refine zY.istore2 (zc1_I _) hO dX11_word_31 ?_
      have L32 : ∀ i : Nat, i ≤ zN D → ∀ lq : Nat → Int, (∀ j, lq j = if 5 * vq ≤ j ∧ j < 5 * vq + i then D 9 (j - 5 * vq) - 97 else μ 128 j) → zY Γ (150, zSX, ad, 0, 0) 32 [some (zP 127), some (zI v), some (zI (i : Int))] [] (zrow (zwr μ 129 vq (zN D : Int)) 128 lq) := by
        refine zdown (zN D) (fun i hi_i ih32 => ?_)
        intro lq hL
        refine zY.iload_n hO dX11_word_32 rfl ?_
        refine zY.aload_n hO dX11_word_33 rfl ?_
        refine zY.getI zfl_X11_93 (by decide : 127 < 150) rfl rfl hO dX11_word_34 ?_
        refine zY.as (b := (zN D : Int)) (by rw [zrow_ne (by decide)];rw [zwr_ne (by decide)]; exact hpm) ?_
        refine zY.icmp_ge (tgt := 65) ⟨by omega, by omega⟩ ⟨by omega, by omega⟩ hO dX11_word_37 (by decide) (fun c37 => ?_) (fun c37 => ?_)
        ·
          refine zY.aload_n hO dX11_word_65 rfl ?_
          refine zY.iconst hO dX11_word_66 ?_
          refine zY.putI zfp_X11_93 (by decide : 127 < 150) rfl rfl hO dX11_word_67 ?_
          refine zY.aload_n hO dX11_word_70 rfl ?_
          refine zY.getR zfl_X11_13 (by decide : 127 < 150) rfl rfl hO dX11_word_71 ?_
          refine zY.iload_n hO dX11_word_74 rfl ?_
          refine zY.iald (vq) hvq (by omega) (by decide) (by decide : 129 < 150) rfl hO dX11_word_75 ?_
          exact zY.iret rfl ⟨_, rfl, ⟨by unfold zA_word; rw [if_pos c4, if_pos hf, zwr_ne (by decide), zrow_ne (by decide)]; simp [zwr]; exact hn.1.symm, by rw [hvq]; exact zMd_word hM (by omega) hf (by rw [show i = zN D by omega] at hL; exact hL), fun q hq => by rw [zwr_ne (by omega), zrow_ne (by omega), zwr_ne (by omega)]⟩⟩ hR hO dX11_word_76
        ·
          refine zY.aload_n hO dX11_word_40 rfl ?_
          refine zY.getR zfl_X11_7 (by decide : 127 < 150) rfl rfl hO dX11_word_41 ?_
          refine zY.iconst hO dX11_word_44 ?_
          refine zY.iload_n hO dX11_word_45 rfl ?_
          refine zY.imul hO dX11_word_46 ?_
          refine zY.iload_n hO dX11_word_47 rfl ?_
          refine zY.iadd hO dX11_word_48 ?_
          refine zY.aload_n hO dX11_word_49 rfl ?_
          refine zY.getR zfl_X11_34 (by decide : 127 < 150) rfl rfl hO dX11_word_50 ?_
          refine zY.iload_n hO dX11_word_53 rfl ?_
          refine zY.iald (i) rfl (by omega) (by decide) (by decide : 136 < 150) rfl hO dX11_word_54 ?_
          refine zY.as (b := D 9 i) (by rw [zrow_ne (by decide), zwr_ne (by decide)]; exact hM.2.2.1.1 i (by omega)) ?_
          refine zY.bipush hO dX11_word_55 (by decide) ?_
          refine zY.isub hO dX11_word_57 ?_
          refine zY.iast (5 * vq + i) (by omega) (by omega) (by decide) (by decide : 128 < 150) rfl hO dX11_word_58 ?_
          refine zY.iinc2 _ rfl (zc1_I _) hO dX11_word_59 ?_
          refine zY.goto (tgt := 32) hO dX11_word_62 (by decide) ?_
          have hin := ih32 (by omega) (fun j => if j = 5 * vq + i then D 9 i - 97 else lq j) (fun j => by
            by_cases e : j = 5 * vq + i
            · rw [if_pos e, if_pos (by omega), show j - 5 * vq = i by omega]
            · rw [if_neg e, hL j]
              by_cases e2 : 5 * vq ≤ j ∧ j < 5 * vq + i
              · rw [if_pos e2, if_pos (by omega)]
              · rw [if_neg e2, if_neg (by omega)])
          rw [← zwr_row] at hin
          exact hin
      have hin := L32 0 (by omega) (μ 128) (fun j => by rw [if_neg (by omega)])
      rw [zrow_self (q := 128) (fun _ => by rw [zwr_ne (by decide)])] at hin
      exact hin
    ·
      refine zY.bipush hO dX11_word_17 (by decide) ?_
      exact zY.iret rfl ⟨_, rfl, ⟨by unfold zA_word; rw [if_pos c4, if_neg (by omega)], by unfold zU_word; rw [if_neg (fun z => by omega)]; exact hM, fun _ _ => rfl⟩⟩ hR hO dX11_word_19
  ·
    replace c4 := zb0.mp c4
    refine zY.iconst hO dX11_word_7 ?_
    exact zY.iret rfl ⟨_, rfl, ⟨by unfold zA_word; rw [if_neg c4], by unfold zU_word; rw [if_neg (fun z => c4 z.1)]; exact hM, fun _ _ => rfl⟩⟩ hR hO dX11_word_8

set_option maxRecDepth 100000 in
set_option maxHeartbeats 4000000 in
theorem ct_X11_sheet {μ : zMem} {D : zBk} {K0 K1 : Option zBk} (hM : zMd D K0 K1 μ) {v : Int} (hv : zr v) : Ci kX11_sheet 4 150 zSX [zP 127, zI v] μ (fun a μ' => a = zA_sheet D v ∧ zMd (zU_sheet D v) K0 K1 μ' ∧ (∀ q, q < 127 → μ' q = μ q)) := by
  refine Ct.of [some (zP 127), some (zI v), none] rfl (Nat.le_of_ble_eq_true rfl) (by decide +kernel) (fun Γ ad hO hR => ?_)
  have hn := zN_eq hM.1
  have hpm := hM.2.2.1.2.trans hn.1
  refine zY.iload_n hO dX11_sheet_0 rfl ?_
  refine zY.callS1iD (ct_X11_isSheet hv) (by decide) zcal_X11_isSheet zml_X11_120 (Nat.le_of_ble_eq_true rfl) rfl ⟨Nat.zero_le _, Nat.zero_le _⟩ hO dX11_sheet_1 ?_
  refine zY.if_ne (tgt := 9) zr_b hO dX11_sheet_4 (by decide) (fun c4 => ?_) (fun c4 => ?_)
  ·
    replace c4 := zb1.mp c4
    obtain ⟨vq, hvq⟩ : ∃ vq : Nat, v = (vq : Int) := ⟨v.toNat, by omega⟩
    refine zY.aload_n hO dX11_sheet_9 rfl ?_
    refine zY.iconst hO dX11_sheet_10 ?_
    refine zY.callV1iD (ct_X11_fault hM ⟨by omega, by omega⟩) (by decide) zcal_X11_fault zml_X11_116 (by decide : 127 < 150) rfl rfl (Nat.le_of_ble_eq_true rfl) rfl ⟨Nat.zero_le _, Nat.zero_le _⟩ hO dX11_sheet_11 ?_
    have hfn := zflt_n hM.1 1 (by omega) (by omega)
    refine zY.if_lt (tgt := 20) (zflt_b hM.1 1) hO dX11_sheet_14 (by decide) (fun c14 => ?_) (fun c14 => ?_)
    ·
      have hf : zflt D 1 = -6 := by omega
      have hok := zf1_ok (D := D) (lo := 48) (hi := 57) (most := 6) (by have := hf; unfold zflt at this; rwa [if_neg (by decide), if_pos rfl] at this)
      refine zY.aload_n hO dX11_sheet_20 rfl ?_
      refine zY.getR zfl_X11_22 (by decide : 127 < 150) rfl rfl hO dX11_sheet_21 ?_
      refine zY.iload_n hO dX11_sheet_24 rfl ?_
      refine zY.aload_n hO dX11_sheet_25 rfl ?_
      refine zY.getI zfl_X11_93 (by decide : 127 < 150) rfl rfl hO dX11_sheet_26 ?_
      refine zY.as (b := (zN D : Int)) (by  exact hpm) ?_
      refine zY.iast (vq) hvq (by omega) (by decide) (by decide : 132 < 150) rfl hO dX11_sheet_29 ?_
      refine zY.iconst hO dX11_sheet_30 ?_
      refine zY.istore2 (zc1_I _) hO dX11_sheet_31 ?_
      have L32 : ∀ i : Nat, i ≤ zN D → ∀ lq : Nat → Int, (∀ j, lq j = if 6 * vq ≤ j ∧ j < 6 * vq + i then D 9 (j - 6 * vq) - 48 else μ 131 j) → zY Γ (150, zSX, ad, 0, 0) 32 [some (zP 127), some (zI v), some (zI (i : Int))] [] (zrow (zwr μ 132 vq (zN D : Int)) 131 lq) := by
        refine zdown (zN D) (fun i hi_i ih32 => ?_)
        intro lq hL
        refine zY.iload_n hO dX11_sheet_32 rfl ?_
        refine zY.aload_n hO dX11_sheet_33 rfl ?_
        refine zY.getI zfl_X11_93 (by decide : 127 < 150) rfl rfl hO dX11_sheet_34 ?_
        refine zY.as (b := (zN D : Int)) (by rw [zrow_ne (by decide)];rw [zwr_ne (by decide)]; exact hpm) ?_
        refine zY.icmp_ge (tgt := 66) ⟨by omega, by omega⟩ ⟨by omega, by omega⟩ hO dX11_sheet_37 (by decide) (fun c37 => ?_) (fun c37 => ?_)
        ·
          refine zY.aload_n hO dX11_sheet_66 rfl ?_
          refine zY.iconst hO dX11_sheet_67 ?_
          refine zY.putI zfp_X11_93 (by decide : 127 < 150) rfl rfl hO dX11_sheet_68 ?_
          refine zY.aload_n hO dX11_sheet_71 rfl ?_
          refine zY.getR zfl_X11_22 (by decide : 127 < 150) rfl rfl hO dX11_sheet_72 ?_
          refine zY.iload_n hO dX11_sheet_75 rfl ?_
          refine zY.iald (vq) hvq (by omega) (by decide) (by decide : 132 < 150) rfl hO dX11_sheet_76 ?_
          exact zY.iret rfl ⟨_, rfl, ⟨by unfold zA_sheet; rw [if_pos c4, if_pos hf, zwr_ne (by decide), zrow_ne (by decide)]; simp [zwr]; exact hn.1.symm, by rw [hvq]; exact zMd_sheet hM (by omega) hf (by rw [show i = zN D by omega] at hL; exact hL), fun q hq => by rw [zwr_ne (by omega), zrow_ne (by omega), zwr_ne (by omega)]⟩⟩ hR hO dX11_sheet_77
        ·
          refine zY.aload_n hO dX11_sheet_40 rfl ?_
          refine zY.getR zfl_X11_19 (by decide : 127 < 150) rfl rfl hO dX11_sheet_41 ?_
          refine zY.bipush hO dX11_sheet_44 (by decide) ?_
          refine zY.iload_n hO dX11_sheet_46 rfl ?_
          refine zY.imul hO dX11_sheet_47 ?_
          refine zY.iload_n hO dX11_sheet_48 rfl ?_
          refine zY.iadd hO dX11_sheet_49 ?_
          refine zY.aload_n hO dX11_sheet_50 rfl ?_
          refine zY.getR zfl_X11_34 (by decide : 127 < 150) rfl rfl hO dX11_sheet_51 ?_
          refine zY.iload_n hO dX11_sheet_54 rfl ?_
          refine zY.iald (i) rfl (by omega) (by decide) (by decide : 136 < 150) rfl hO dX11_sheet_55 ?_
          refine zY.as (b := D 9 i) (by rw [zrow_ne (by decide), zwr_ne (by decide)]; exact hM.2.2.1.1 i (by omega)) ?_
          refine zY.bipush hO dX11_sheet_56 (by decide) ?_
          refine zY.isub hO dX11_sheet_58 ?_
          refine zY.iast (6 * vq + i) (by omega) (by omega) (by decide) (by decide : 131 < 150) rfl hO dX11_sheet_59 ?_
          refine zY.iinc2 _ rfl (zc1_I _) hO dX11_sheet_60 ?_
          refine zY.goto (tgt := 32) hO dX11_sheet_63 (by decide) ?_
          have hin := ih32 (by omega) (fun j => if j = 6 * vq + i then D 9 i - 48 else lq j) (fun j => by
            by_cases e : j = 6 * vq + i
            · rw [if_pos e, if_pos (by omega), show j - 6 * vq = i by omega]
            · rw [if_neg e, hL j]
              by_cases e2 : 6 * vq ≤ j ∧ j < 6 * vq + i
              · rw [if_pos e2, if_pos (by omega)]
              · rw [if_neg e2, if_neg (by omega)])
          rw [← zwr_row] at hin
          exact hin
      have hin := L32 0 (by omega) (μ 131) (fun j => by rw [if_neg (by omega)])
      rw [zrow_self (q := 131) (fun _ => by rw [zwr_ne (by decide)])] at hin
      exact hin
    ·
      refine zY.bipush hO dX11_sheet_17 (by decide) ?_
      exact zY.iret rfl ⟨_, rfl, ⟨by unfold zA_sheet; rw [if_pos c4, if_neg (by omega)], by unfold zU_sheet; rw [if_neg (fun z => by omega)]; exact hM, fun _ _ => rfl⟩⟩ hR hO dX11_sheet_19
  ·
    replace c4 := zb0.mp c4
    refine zY.iconst hO dX11_sheet_7 ?_
    exact zY.iret rfl ⟨_, rfl, ⟨by unfold zA_sheet; rw [if_neg c4], by unfold zU_sheet; rw [if_neg (fun z => c4 z.1)]; exact hM, fun _ _ => rfl⟩⟩ hR hO dX11_sheet_8
