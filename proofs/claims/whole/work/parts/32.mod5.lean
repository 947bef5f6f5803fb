/-! the model: word, sheet, set, told -/
theorem zMd_word {D : zBk} {K0 K1 : Option zBk} {μ : zMem} {w : Nat} {lq : Nat → Int} (hM : zMd D K0 K1 μ) (hw : w < 10) (hf : zflt D 0 = -6) (hl : ∀ j, lq j = if 5 * w ≤ j ∧ j < 5 * w + zN D then D 9 (j - 5 * w) - 97 else μ 128 j) : zMd (zU_word D (w : Int)) K0 K1 (zwr (zrow (zwr μ 129 w (zN D : Int)) 128 lq) 127 11 0) := by
  have hW2 := zWF_word hM.1 (w : Int)
  obtain ⟨hW, hS, hP, hI0, hI1⟩ := hM
  have hz := zN_eq hW
  have hk2 := (zf1_ok (D := D) (lo := 97) (hi := 102) (most := 5) (by have := hf; unfold zflt at this; rwa [if_pos rfl] at this)).2.1
  have hU : zU_word D (w : Int) = (fun t k => if t = 10 ∧ k = 0 then 0 else if t = 1 ∧ k = w then D 10 0 else if t = 0 ∧ 5 * w ≤ k ∧ k < 5 * w + zN D then D 9 (k - 5 * w) - 97 else D t k) := by
    unfold zU_word
    rw [if_pos ⟨⟨by omega, by omega⟩, hf⟩, Int.toNat_natCast]
  rw [hU] at hW2 ⊢
  have hr : ∀ q, q ≠ 127 → q ≠ 128 → q ≠ 129 → zwr (zrow (zwr μ 129 w (zN D : Int)) 128 lq) 127 11 0 q = μ q := fun q h1 h2 h3 => by rw [zwr_ne h1, zrow_ne h2, zwr_ne h3]
  have hfl : ∀ j, j ≠ 11 → zwr (zrow (zwr μ 129 w (zN D : Int)) 128 lq) 127 11 0 127 j = μ 127 j := fun j h => by simp [zwr, zrow, h]
  refine ⟨hW2, ⟨fun t a b s hs => ?_, fun t a b v hv => ?_, fun v hv i hi => ?_, fun s hs i hi => ?_, ?_, ?_⟩, ⟨fun j hj => ?_, ?_⟩, hI0.keep (hr _ (by omega) (by omega) (by omega)) (hr _ (by omega) (by omega) (by omega)), hI1.keep (hr _ (by omega) (by omega) (by omega)) (hr _ (by omega) (by omega) (by omega))⟩
  · rw [hr _ (by omega) (by omega) (by omega)]
    show μ (128 + t) s = (if t = 10 ∧ s = 0 then 0 else if t = 1 ∧ s = w then D 10 0 else if t = 0 ∧ 5 * w ≤ s ∧ s < 5 * w + zN D then D 9 (s - 5 * w) - 97 else D t s)
    rw [if_neg (by omega), if_neg (by omega), if_neg (by omega)]
    exact hS.1 t a b s hs
  · show _ = (if t = 10 ∧ v = 0 then 0 else if t = 1 ∧ v = w then D 10 0 else if t = 0 ∧ 5 * w ≤ v ∧ v < 5 * w + zN D then D 9 (v - 5 * w) - 97 else D t v)
    rw [if_neg (by omega), zwr_ne (by omega), zrow_ne (by omega)]
    by_cases e : t = 1 ∧ v = w
    · rw [if_pos e]
      obtain ⟨rfl, rfl⟩ := e
      simp [zwr]
      omega
    · rw [if_neg e, if_neg (by omega)]
      have hz2 : zwr μ 129 w (zN D : Int) (128 + t) v = μ (128 + t) v := by
        simp only [zwr]
        by_cases e1 : 128 + t = 129
        · rw [if_pos e1, if_neg (fun z => e ⟨by omega, z⟩)]
        · rw [if_neg e1]
      rw [hz2]
      exact hS.2.1 t a b v hv
  · have hi2 : (i : Int) < (if v = w then D 10 0 else D 1 v) := by
      have hi3 : (i : Int) < (if (1 : Nat) = 10 ∧ v = 0 then 0 else if (1 : Nat) = 1 ∧ v = w then D 10 0 else if (1 : Nat) = 0 ∧ 5 * w ≤ v ∧ v < 5 * w + zN D then D 9 (v - 5 * w) - 97 else D 1 v) := hi
      rw [if_neg (by omega)] at hi3
      by_cases e : v = w
      · rw [if_pos e]; rw [if_pos ⟨rfl, e⟩] at hi3; exact hi3
      · rw [if_neg e]; rw [if_neg (fun z => e z.2), if_neg (by omega)] at hi3; exact hi3
    show _ = (if (0 : Nat) = 10 ∧ 5 * v + i = 0 then 0 else if (0 : Nat) = 1 ∧ 5 * v + i = w then D 10 0 else if (0 : Nat) = 0 ∧ 5 * w ≤ 5 * v + i ∧ 5 * v + i < 5 * w + zN D then D 9 (5 * v + i - 5 * w) - 97 else D 0 (5 * v + i))
    rw [if_neg (by omega), if_neg (by omega), zwr_ne (by omega), zrow_eq, hl]
    have hv5 := (hW.1 v hv).2.1
    by_cases e : v = w
    · rw [if_pos e] at hi2
      rw [if_pos (by omega), if_pos (by omega)]
    · rw [if_neg e] at hi2
      rw [if_neg (by omega), if_neg (by omega)]
      exact hS.2.2.1 v hv i hi2
  · have hi3 : (i : Int) < (if (4 : Nat) = 10 ∧ s = 0 then 0 else if (4 : Nat) = 1 ∧ s = w then D 10 0 else if (4 : Nat) = 0 ∧ 5 * w ≤ s ∧ s < 5 * w + zN D then D 9 (s - 5 * w) - 97 else D 4 s) := hi
    rw [if_neg (by omega), if_neg (by omega), if_neg (by omega)] at hi3
    rw [hr _ (by omega) (by omega) (by omega)]
    show _ = (if (3 : Nat) = 10 ∧ 6 * s + i = 0 then 0 else if (3 : Nat) = 1 ∧ 6 * s + i = w then D 10 0 else if (3 : Nat) = 0 ∧ 5 * w ≤ 6 * s + i ∧ 6 * s + i < 5 * w + zN D then D 9 (6 * s + i - 5 * w) - 97 else D 3 (6 * s + i))
    rw [if_neg (by omega), if_neg (by omega), if_neg (by omega)]
    exact hS.2.2.2.1 s hs i hi3
  · rw [hfl 8 (by omega)]; simp; exact hS.2.2.2.2.1
  · rw [hfl 9 (by omega)]; simp; exact hS.2.2.2.2.2
  · rw [hr _ (by omega) (by omega) (by omega)]; simp; exact hP.1 j hj
  · simp [zwr]
theorem zMd_sheet {D : zBk} {K0 K1 : Option zBk} {μ : zMem} {s : Nat} {lq : Nat → Int} (hM : zMd D K0 K1 μ) (hs : s < 6) (hf : zflt D 1 = -6) (hl : ∀ j, lq j = if 6 * s ≤ j ∧ j < 6 * s + zN D then D 9 (j - 6 * s) - 48 else μ 131 j) : zMd (zU_sheet D (s : Int)) K0 K1 (zwr (zrow (zwr μ 132 s (zN D : Int)) 131 lq) 127 11 0) := by
  have hW2 := zWF_sheet hM.1 (s : Int)
  obtain ⟨hW, hS, hP, hI0, hI1⟩ := hM
  have hz := zN_eq hW
  have hk2 := (zf1_ok (D := D) (lo := 48) (hi := 57) (most := 6) (by have := hf; unfold zflt at this; rwa [if_neg (by decide), if_pos rfl] at this)).2.1
  have hU : zU_sheet D (s : Int) = (fun t k => if t = 10 ∧ k = 0 then 0 else if t = 4 ∧ k = s then D 10 0 else if t = 3 ∧ 6 * s ≤ k ∧ k < 6 * s + zN D then D 9 (k - 6 * s) - 48 else D t k) := by
    unfold zU_sheet
    rw [if_pos ⟨⟨by omega, by omega⟩, hf⟩, Int.toNat_natCast]
  rw [hU] at hW2 ⊢
  have hr : ∀ q, q ≠ 127 → q ≠ 131 → q ≠ 132 → zwr (zrow (zwr μ 132 s (zN D : Int)) 131 lq) 127 11 0 q = μ q := fun q h1 h2 h3 => by rw [zwr_ne h1, zrow_ne h2, zwr_ne h3]
  have hfl : ∀ j, j ≠ 11 → zwr (zrow (zwr μ 132 s (zN D : Int)) 131 lq) 127 11 0 127 j = μ 127 j := fun j h => by simp [zwr, zrow, h]
  refine ⟨hW2, ⟨fun t a b u hu => ?_, fun t a b v hv => ?_, fun v hv i hi => ?_, fun u hu i hi => ?_, ?_, ?_⟩, ⟨fun j hj => ?_, ?_⟩, hI0.keep (hr _ (by omega) (by omega) (by omega)) (hr _ (by omega) (by omega) (by omega)), hI1.keep (hr _ (by omega) (by omega) (by omega)) (hr _ (by omega) (by omega) (by omega))⟩
  · show _ = (if t = 10 ∧ u = 0 then 0 else if t = 4 ∧ u = s then D 10 0 else if t = 3 ∧ 6 * s ≤ u ∧ u < 6 * s + zN D then D 9 (u - 6 * s) - 48 else D t u)
    rw [if_neg (by omega), zwr_ne (by omega), zrow_ne (by omega)]
    by_cases e : t = 4 ∧ u = s
    · rw [if_pos e]
      obtain ⟨rfl, rfl⟩ := e
      simp [zwr]
      omega
    · rw [if_neg e, if_neg (by omega)]
      have hz2 : zwr μ 132 s (zN D : Int) (128 + t) u = μ (128 + t) u := by
        simp only [zwr]
        by_cases e1 : 128 + t = 132
        · rw [if_pos e1, if_neg (fun z => e ⟨by omega, z⟩)]
        · rw [if_neg e1]
      rw [hz2]
      exact hS.1 t a b u hu
  · rw [hr _ (by omega) (by omega) (by omega)]
    show μ (128 + t) v = (if t = 10 ∧ v = 0 then 0 else if t = 4 ∧ v = s then D 10 0 else if t = 3 ∧ 6 * s ≤ v ∧ v < 6 * s + zN D then D 9 (v - 6 * s) - 48 else D t v)
    rw [if_neg (by omega), if_neg (by omega), if_neg (by omega)]
    exact hS.2.1 t a b v hv
  · have hi3 : (i : Int) < (if (1 : Nat) = 10 ∧ v = 0 then 0 else if (1 : Nat) = 4 ∧ v = s then D 10 0 else if (1 : Nat) = 3 ∧ 6 * s ≤ v ∧ v < 6 * s + zN D then D 9 (v - 6 * s) - 48 else D 1 v) := hi
    rw [if_neg (by omega), if_neg (by omega), if_neg (by omega)] at hi3
    rw [hr _ (by omega) (by omega) (by omega)]
    show _ = (if (0 : Nat) = 10 ∧ 5 * v + i = 0 then 0 else if (0 : Nat) = 4 ∧ 5 * v + i = s then D 10 0 else if (0 : Nat) = 3 ∧ 6 * s ≤ 5 * v + i ∧ 5 * v + i < 6 * s + zN D then D 9 (5 * v + i - 6 * s) - 48 else D 0 (5 * v + i))
    rw [if_neg (by omega), if_neg (by omega), if_neg (by omega)]
    exact hS.2.2.1 v hv i hi3
  · have hi2 : (i : Int) < (if u = s then D 10 0 else D 4 u) := by
      have hi3 : (i : Int) < (if (4 : Nat) = 10 ∧ u = 0 then 0 else if (4 : Nat) = 4 ∧ u = s then D 10 0 else if (4 : Nat) = 3 ∧ 6 * s ≤ u ∧ u < 6 * s + zN D then D 9 (u - 6 * s) - 48 else D 4 u) := hi
      rw [if_neg (by omega)] at hi3
      by_cases e : u = s
      · rw [if_pos e]; rw [if_pos ⟨rfl, e⟩] at hi3; exact hi3
      · rw [if_neg e]; rw [if_neg (fun z => e z.2), if_neg (by omega)] at hi3; exact hi3
    show _ = (if (3 : Nat) = 10 ∧ 6 * u + i = 0 then 0 else if (3 : Nat) = 4 ∧ 6 * u + i = s then D 10 0 else if (3 : Nat) = 3 ∧ 6 * s ≤ 6 * u + i ∧ 6 * u + i < 6 * s + zN D then D 9 (6 * u + i - 6 * s) - 48 else D 3 (6 * u + i))
    rw [if_neg (by omega), if_neg (by omega), zwr_ne (by omega), zrow_eq, hl]
    have hv5 := (hW.2.1 u hu).2.1
    by_cases e : u = s
    · rw [if_pos e] at hi2
      rw [if_pos (by omega), if_pos (by omega)]
    · rw [if_neg e] at hi2
      rw [if_neg (by omega), if_neg (by omega)]
      exact hS.2.2.2.1 u hu i hi2
  · rw [hfl 8 (by omega)]; simp; exact hS.2.2.2.2.1
  · rw [hfl 9 (by omega)]; simp; exact hS.2.2.2.2.2
  · rw [hr _ (by omega) (by omega) (by omega)]; simp; exact hP.1 j hj
  · simp [zwr]

set_option maxRecDepth 100000 in
set_option maxHeartbeats 4000000 in
theorem ct_X11_word {μ : zMem} {D : zBk} {K0 K1 : Option zBk} (hM : zMd D K0 K1 μ) {v : Int} (hv : zr v) : Ci kX11_word 4 150 zSX [zP 127, zI v] μ (fun a μ' => a = zA_word D v ∧ zMd (zU_word D v) K0 K1 μ' ∧ (∀ q, q < 127 → μ' q = μ q)) := by
  refine Ct.of [some (zP 127), some (zI v), none] rfl (Nat.le_of_ble_eq_true rfl) (by decide +kernel) (fun Γ ad hO hR => ?_)
  have hn := zN_eq hM.1
  have hpm := hM.2.2.1.2.trans hn.1
  refine zY.iload_n hO dX11_word_0 rfl ?_
  refine zY.callS1iD (ct_X11_isWord hv) (by decide) zcal_X11_isWord zml_X11_112 (Nat.le_of_ble_eq_true rfl) rfl ⟨Nat.zero_le _, Nat.zero_le _⟩ hO dX11_word_1 ?_
  refine zY.if_ne (tgt := 9) zr_b hO dX11_word_4 (by decide) (fun c4 => ?_) (fun c4 => ?_)
  ·
    replace c4 := zb1.mp c4
    obtain ⟨vq, hvq⟩ : ∃ vq : Nat, v = (vq : Int) := ⟨v.toNat, by omega⟩
    refine zY.aload_n hO dX11_word_9 rfl ?_
    refine zY.iconst hO dX11_word_10 ?_
    refine zY.callV1iD (ct_X11_fault hM ⟨by omega, by omega⟩) (by decide) zcal_X11_fault zml_X11_116 (by decide : 127 < 150) rfl rfl (Nat.le_of_ble_eq_true rfl) rfl ⟨Nat.zero_le _, Nat.zero_le _⟩ hO dX11_word_11 ?_
    have hfn := zflt_n hM.1 0 (by omega) (by omega)
    refine zY.if_lt (tgt := 20) (zflt_b hM.1 0) hO dX11_word_14 (by decide) (fun c14 => ?_) (fun c14 => ?_)
    ·
      have hf : zflt D 0 = -6 := by omega
      have hok := zf1_ok (D := D) (lo := 97) (hi := 102) (most := 5) (by have := hf; unfold zflt at this; rwa [if_pos rfl] at this)
      refine zY.aload_n hO dX11_word_20 rfl ?_
      refine zY.getR zfl_X11_13 (by decide : 127 < 150) rfl rfl hO dX11_word_21 ?_
      refine zY.iload_n hO dX11_word_24 rfl ?_
      refine zY.aload_n hO dX11_word_25 rfl ?_
      refine zY.getI zfl_X11_93 (by decide : 127 < 150) rfl rfl hO dX11_word_26 ?_
      refine zY.as (b := (zN D : Int)) (by  exact hpm) ?_
      refine zY.iast (vq) hvq (by omega) (by decide) (by decide : 129 < 150) rfl hO dX11_word_29 ?_
      refine zY.iconst hO dX11_word_30 ?_
      refine zY.istore2 (zc1_I _) hO dX11_word_31 ?_
      have L32 : ∀ i : Nat, i ≤ zN D → ∀ lq : Nat → Int, (∀ j, lq j = if 5 * vq ≤ j ∧ j < 5 * vq + i then D 9 (j - 5 * vq) - 97 else μ 128 j) → zY Γ (150, zSX, ad, 0, 0) 32 [some (zP 127), some (zI v), some (zI (i : Int))] [] (zrow (zwr μ 129 vq (zN D : Int)) 128 lq) := by
        refine zdown (zN D) (fun i hi_i ih32 => ?_)
        intro lq hL
        refine zY.iload_n hO dX11_word_32 rfl ?_
        refine zY.aload_n hO dX11_word_33 rfl ?_
        refine zY.getI zfl_X11_93 (by decide : 127 < 150) rfl rfl hO dX11_word_34 ?_
        refine zY.as (b := (zN D : Int)) (by rw [zrow_ne (by decide)];rw [zwr_ne (by decide)]; exact hpm) ?_
        refine zY.icmp_ge (tgt := 65) ⟨by omega, by omega⟩ ⟨by omega, by omega⟩ hO dX11_word_37 (by decide) (fun c37 => ?_) (fun c37 => ?_)
        ·
          refine zY.aload_n hO dX11_word_65 rfl ?_
          refine zY.iconst hO dX11_word_66 ?_
          refine zY.putI zfp_X11_93 (by decide : 127 < 150) rfl rfl hO dX11_word_67 ?_
          refine zY.aload_n hO dX11_word_70 rfl ?_
          refine zY.getR zfl_X11_13 (by decide : 127 < 150) rfl rfl hO dX11_word_71 ?_
          refine zY.iload_n hO dX11_word_74 rfl ?_
          refine zY.iald (vq) hvq (by omega) (by decide) (by decide : 129 < 150) rfl hO dX11_word_75 ?_
          exact zY.iret rfl ⟨_, rfl, ⟨by unfold zA_word; rw [if_pos c4, if_pos hf, zwr_ne (by decide), zrow_ne (by decide)]; simp [zwr]; exact hn.1.symm, by rw [hvq]; exact zMd_word hM (by omega) hf (by rw [show i = zN D by omega] at hL; exact hL), fun q hq => by rw [zwr_ne (by omega), zrow_ne (by omega), zwr_ne (by omega)]⟩⟩ hR hO dX11_word_76
        ·
          refine zY.aload_n hO dX11_word_40 rfl ?_
          refine zY.getR zfl_X11_7 (by decide : 127 < 150) rfl rfl hO dX11_word_41 ?_
          refine zY.iconst hO dX11_word_44 ?_
          refine zY.iload_n hO dX11_word_45 rfl ?_
          refine zY.imul hO dX11_word_46 ?_
          refine zY.iload_n hO dX11_word_47 rfl ?_
          refine zY.iadd hO dX11_word_48 ?_
          refine zY.aload_n hO dX11_word_49 rfl ?_
          refine zY.getR zfl_X11_34 (by decide : 127 < 150) rfl rfl hO dX11_word_50 ?_
          refine zY.iload_n hO dX11_word_53 rfl ?_
          refine zY.iald (i) rfl (by omega) (by decide) (by decide : 136 < 150) rfl hO dX11_word_54 ?_
          refine zY.as (b := D 9 i) (by rw [zrow_ne (by decide), zwr_ne (by decide)]; exact hM.2.2.1.1 i (by omega)) ?_
          refine zY.bipush hO dX11_word_55 (by decide) ?_
          refine zY.isub hO dX11_word_57 ?_
          refine zY.iast (5 * vq + i) (by omega) (by omega) (by decide) (by decide : 128 < 150) rfl hO dX11_word_58 ?_
          refine zY.iinc2 _ rfl (zc1_I _) hO dX11_word_59 ?_
          refine zY.goto (tgt := 32) hO dX11_word_62 (by decide) ?_
          have hin := ih32 (by omega) (fun j => if j = 5 * vq + i then D 9 i - 97 else lq j) (fun j => by
            by_cases e : j = 5 * vq + i
            · rw [if_pos e, if_pos (by omega), show j - 5 * vq = i by omega]
            · rw [if_neg e, hL j]
              by_cases e2 : 5 * vq ≤ j ∧ j < 5 * vq + i
              · rw [if_pos e2, if_pos (by omega)]
              · rw [if_neg e2, if_neg (by omega)])
          rw [← zwr_row] at hin
          exact hin
      have hin := L32 0 (by omega) (μ 128) (fun j => by rw [if_neg (by omega)])
      rw [zrow_self (q := 128) (fun _ => by rw [zwr_ne (by decide)])] at hin
      exact hin
    ·
      refine zY.bipush hO dX11_word_17 (by decide) ?_
      exact zY.iret rfl ⟨_, rfl, ⟨by unfold zA_word; rw [if_pos c4, if_neg (by omega)], by unfold zU_word; rw [if_neg (fun z => by omega)]; exact hM, fun _ _ => rfl⟩⟩ hR hO dX11_word_19
  ·
    replace c4 := zb0.mp c4
    refine zY.iconst hO dX11_word_7 ?_
    exact zY.iret rfl ⟨_, rfl, ⟨by unfold zA_word; rw [if_neg c4], by unfold zU_word; rw [if_neg (fun z => c4 z.1)]; exact hM, fun _ _ => rfl⟩⟩ hR hO dX11_word_8

set_option maxRecDepth 100000 in
set_option maxHeartbeats 4000000 in
theorem ct_X11_sheet {μ : zMem} {D : zBk} {K0 K1 : Option zBk} (hM : zMd D K0 K1 μ) {v : Int} (hv : zr v) : Ci kX11_sheet 4 150 zSX [zP 127, zI v] μ (fun a μ' => a = zA_sheet D v ∧ zMd (zU_sheet D v) K0 K1 μ' ∧ (∀ q, q < 127 → μ' q = μ q)) := by
  refine Ct.of [some (zP 127), some (zI v), none] rfl (Nat.le_of_ble_eq_true rfl) (by decide +kernel) (fun Γ ad hO hR => ?_)
  have hn := zN_eq hM.1
  have hpm := hM.2.2.1.2.trans hn.1
  refine zY.iload_n hO dX11_sheet_0 rfl ?_
  refine zY.callS1iD (ct_X11_isSheet hv) (by decide) zcal_X11_isSheet zml_X11_120 (Nat.le_of_ble_eq_true rfl) rfl ⟨Nat.zero_le _, Nat.zero_le _⟩ hO dX11_sheet_1 ?_
  refine zY.if_ne (tgt := 9) zr_b hO dX11_sheet_4 (by decide) (fun c4 => ?_) (fun c4 => ?_)
  ·
    replace c4 := zb1.mp c4
    obtain ⟨vq, hvq⟩ : ∃ vq : Nat, v = (vq : Int) := ⟨v.toNat, by omega⟩
    refine zY.aload_n hO dX11_sheet_9 rfl ?_
    refine zY.iconst hO dX11_sheet_10 ?_
    refine zY.callV1iD (ct_X11_fault hM ⟨by omega, by omega⟩) (by decide) zcal_X11_fault zml_X11_116 (by decide : 127 < 150) rfl rfl (Nat.le_of_ble_eq_true rfl) rfl ⟨Nat.zero_le _, Nat.zero_le _⟩ hO dX11_sheet_11 ?_
    have hfn := zflt_n hM.1 1 (by omega) (by omega)
    refine zY.if_lt (tgt := 20) (zflt_b hM.1 1) hO dX11_sheet_14 (by decide) (fun c14 => ?_) (fun c14 => ?_)
    ·
      have hf : zflt D 1 = -6 := by omega
      have hok := zf1_ok (D := D) (lo := 48) (hi := 57) (most := 6) (by have := hf; unfold zflt at this; rwa [if_neg (by decide), if_pos rfl] at this)
      refine zY.aload_n hO dX11_sheet_20 rfl ?_
      refine zY.getR zfl_X11_22 (by decide : 127 < 150) rfl rfl hO dX11_sheet_21 ?_
      refine zY.iload_n hO dX11_sheet_24 rfl ?_
      refine zY.aload_n hO dX11_sheet_25 rfl ?_
      refine zY.getI zfl_X11_93 (by decide : 127 < 150) rfl rfl hO dX11_sheet_26 ?_
      refine zY.as (b := (zN D : Int)) (by  exact hpm) ?_
      refine zY.iast (vq) hvq (by omega) (by decide) (by decide : 132 < 150) rfl hO dX11_sheet_29 ?_
      refine zY.iconst hO dX11_sheet_30 ?_
      refine zY.istore2 (zc1_I _) hO dX11_sheet_31 ?_
      have L32 : ∀ i : Nat, i ≤ zN D → ∀ lq : Nat → Int, (∀ j, lq j = if 6 * vq ≤ j ∧ j < 6 * vq + i then D 9 (j - 6 * vq) - 48 else μ 131 j) → zY Γ (150, zSX, ad, 0, 0) 32 [some (zP 127), some (zI v), some (zI (i : Int))] [] (zrow (zwr μ 132 vq (zN D : Int)) 131 lq) := by
        refine zdown (zN D) (fun i hi_i ih32 => ?_)
        intro lq hL
        refine zY.iload_n hO dX11_sheet_32 rfl ?_
        refine zY.aload_n hO dX11_sheet_33 rfl ?_
        refine zY.getI zfl_X11_93 (by decide : 127 < 150) rfl rfl hO dX11_sheet_34 ?_
        refine zY.as (b := (zN D : Int)) (by rw [zrow_ne (by decide)];rw [zwr_ne (by decide)]; exact hpm) ?_
        refine zY.icmp_ge (tgt := 66) ⟨by omega, by omega⟩ ⟨by omega, by omega⟩ hO dX11_sheet_37 (by decide) (fun c37 => ?_) (fun c37 => ?_)
        ·
          refine zY.aload_n hO dX11_sheet_66 rfl ?_
          refine zY.iconst hO dX11_sheet_67 ?_
          refine zY.putI zfp_X11_93 (by decide : 127 < 150) rfl rfl hO dX11_sheet_68 ?_
          refine zY.aload_n hO dX11_sheet_71 rfl ?_
          refine zY.getR zfl_X11_22 (by decide : 127 < 150) rfl rfl hO dX11_sheet_72 ?_
          refine zY.iload_n hO dX11_sheet_75 rfl ?_
          refine zY.iald (vq) hvq (by omega) (by decide) (by decide : 132 < 150) rfl hO dX11_sheet_76 ?_
          exact zY.iret rfl ⟨_, rfl, ⟨by unfold zA_sheet; rw [if_pos c4, if_pos hf, zwr_ne (by decide), zrow_ne (by decide)]; simp [zwr]; exact hn.1.symm, by rw [hvq]; exact zMd_sheet hM (by omega) hf (by rw [show i = zN D by omega] at hL; exact hL), fun q hq => by rw [zwr_ne (by omega), zrow_ne (by omega), zwr_ne (by omega)]⟩⟩ hR hO dX11_sheet_77
        ·
          refine zY.aload_n hO dX11_sheet_40 rfl ?_
          refine zY.getR zfl_X11_19 (by decide : 127 < 150) rfl rfl hO dX11_sheet_41 ?_
          refine zY.bipush hO dX11_sheet_44 (by decide) ?_
          refine zY.iload_n hO dX11_sheet_46 rfl ?_
          refine zY.imul hO dX11_sheet_47 ?_
          refine zY.iload_n hO dX11_sheet_48 rfl ?_
          refine zY.iadd hO dX11_sheet_49 ?_
          refine zY.aload_n hO dX11_sheet_50 rfl ?_
          refine zY.getR zfl_X11_34 (by decide : 127 < 150) rfl rfl hO dX11_sheet_51 ?_
          refine zY.iload_n hO dX11_sheet_54 rfl ?_
          refine zY.iald (i) rfl (by omega) (by decide) (by decide : 136 < 150) rfl hO dX11_sheet_55 ?_
          refine zY.as (b := D 9 i) (by rw [zrow_ne (by decide), zwr_ne (by decide)]; exact hM.2.2.1.1 i (by omega)) ?_
          refine zY.bipush hO dX11_sheet_56 (by decide) ?_
          refine zY.isub hO dX11_sheet_58 ?_
          refine zY.iast (6 * vq + i) (by omega) (by omega) (by decide) (by decide : 131 < 150) rfl hO dX11_sheet_59 ?_
          refine zY.iinc2 _ rfl (zc1_I _) hO dX11_sheet_60 ?_
          refine zY.goto (tgt := 32) hO dX11_sheet_63 (by decide) ?_
          have hin := ih32 (by omega) (fun j => if j = 6 * vq + i then D 9 i - 48 else lq j) (fun j => by
            by_cases e : j = 6 * vq + i
            · rw [if_pos e, if_pos (by omega), show j - 6 * vq = i by omega]
            · rw [if_neg e, hL j]
              by_cases e2 : 6 * vq ≤ j ∧ j < 6 * vq + i
              · rw [if_pos e2, if_pos (by omega)]
              · rw [if_neg e2, if_neg (by omega)])
          rw [← zwr_row] at hin
          exact hin
      have hin := L32 0 (by omega) (μ 131) (fun j => by rw [if_neg (by omega)])
      rw [zrow_self (q := 131) (fun _ => by rw [zwr_ne (by decide)])] at hin
      exact hin
    ·
      refine zY.bipush hO dX11_sheet_17 (by decide) ?_
      exact zY.iret rfl ⟨_, rfl, ⟨by unfold zA_sheet; rw [if_pos c4, if_neg (by omega)], by unfold zU_sheet; rw [if_neg (fun z => by omega)]; exact hM, fun _ _ => rfl⟩⟩ hR hO dX11_sheet_19
  ·
    replace c4 := zb0.mp c4
    refine zY.iconst hO dX11_sheet_7 ?_
    exact zY.iret rfl ⟨_, rfl, ⟨by unfold zA_sheet; rw [if_neg c4], by unfold zU_sheet; rw [if_neg (fun z => c4 z.1)]; exact hM, fun _ _ => rfl⟩⟩ hR hO dX11_sheet_8

theorem zrem10 {x : Int} (hx : zr x) : Int32.ofInt x - Int32.ofInt x / Int32.ofInt 10 * Int32.ofInt 10 = Int32.ofInt (x - x.tdiv 10 * 10) := by
  rw [← Int32.ofInt_tdiv (a := x) (b := 10) hx.1 hx.2 (by decide) (by decide), ← Int32.ofInt_mul, ← Int32.ofInt_sub]

set_option maxRecDepth 100000 in
set_option maxHeartbeats 4000000 in
theorem ct_X11_told {μ : zMem} {D : zBk} {K0 K1 : Option zBk} (hM : zMd D K0 K1 μ) {x : Int} (hx : zr x) : Ci kX11_told 2 150 zSX [zP 127, zI x] μ (fun a μ' => a = zA_told D x ∧ μ' = μ) := by
  refine Ct.of [some (zP 127), some (zI x), none, none] rfl (Nat.le_of_ble_eq_true rfl) (by decide +kernel) (fun Γ ad hO hR => ?_)
  refine zY.iload_n hO dX11_told_0 rfl ?_
  refine zY.bipush hO dX11_told_1 (by decide) ?_
  refine zY.irem (c := (x - x.tdiv 10 * 10)) (by decide) (zrem10 hx) hO dX11_told_3 ?_
  refine zY.istore2 (zc1_I _) hO dX11_told_4 ?_
  refine zY.iload_n hO dX11_told_5 rfl ?_
  refine zY.i2l hx hO dX11_told_6 ?_
  refine zY.ldc2 hO zcl_X11_246 dX11_told_7 ?_
  refine zY.ldc2 hO zcl_X11_282 dX11_told_10 ?_
  refine zY.callS3iD (ct_X11_in ⟨by omega, by omega⟩ ⟨by omega, by omega⟩ ⟨by omega, by omega⟩) (by decide) zcal_X11_in zml_X11_83 (Nat.le_of_ble_eq_true rfl) rfl ⟨Nat.zero_le _, Nat.zero_le _⟩ hO dX11_told_13 ?_
  refine zY.if_eq (tgt := 41) zr_b hO dX11_told_16 (by decide) (fun c16 => ?_) (fun c16 => ?_)
  ·
    replace c16 := zb0.mp c16
    refine zY.iload_n hO dX11_told_41 rfl ?_
    have L74 : ∀ mq : Int, ((mq = 1 ∧ ((10 ≤ x ∧ x ≤ 25) ∨ (50 ≤ x ∧ x ≤ 65))) ∨ (mq = 0 ∧ ¬ ((10 ≤ x ∧ x ≤ 25) ∨ (50 ≤ x ∧ x ≤ 65)))) → zY Γ (150, zSX, ad, 0, 0) 74 [some (zP 127), some (zI x), some (zI (x - x.tdiv 10 * 10)), none] [zI mq] μ := by
      intro mq hmq
      refine zY.istore3 (zc1_I _) hO dX11_told_74 ?_
      refine zY.iload_n hO dX11_told_75 rfl ?_
      refine zY.if_eq (tgt := 141) ⟨by omega, by omega⟩ hO dX11_told_76 (by decide) (fun c76 => ?_) (fun c76 => ?_)
      ·
        have hnr : ¬ ((10 ≤ x ∧ x ≤ 25) ∨ (50 ≤ x ∧ x ≤ 65)) := by rcases hmq with h | h; (· omega); (· exact h.2)
        refine zY.iload_n hO dX11_told_141 rfl ?_
        by_cases e142_0 : x = 0
        ·
          refine zY.tswIn (off := 30) (tgt := 172) hx (by omega) (by omega) (by rw [e142_0]; rfl) (by decide) hO dX11_told_142 ?_
          refine zY.aload_n hO dX11_told_172 rfl ?_
          refine zY.getI zfl_X11_93 (by decide : 127 < 150) rfl rfl hO dX11_told_173 ?_
          refine zY.as (b := D 10 0) hM.2.2.1.2 ?_
          exact zY.iret rfl ⟨_, rfl, ⟨by unfold zA_told; rw [if_pos (by omega)], rfl⟩⟩ hR hO dX11_told_176
        ·
          by_cases e142_1 : x = 1
          ·
            refine zY.tswIn (off := 35) (tgt := 177) hx (by omega) (by omega) (by rw [e142_1]; rfl) (by decide) hO dX11_told_142 ?_
            refine zY.aload_n hO dX11_told_177 rfl ?_
            refine zY.callV0iD (ct_X11_there hM) (by decide) zcal_X11_there zml_X11_96 (by decide : 127 < 150) rfl rfl (Nat.le_of_ble_eq_true rfl) rfl ⟨Nat.zero_le _, Nat.zero_le _⟩ hO dX11_told_178 ?_
            exact zY.iret rfl ⟨_, rfl, ⟨by unfold zA_told; rw [if_neg (by omega), if_pos (by omega)], rfl⟩⟩ hR hO dX11_told_181
          ·
            by_cases e142_2 : x = 2
            ·
              refine zY.tswIn (off := 40) (tgt := 182) hx (by omega) (by omega) (by rw [e142_2]; rfl) (by decide) hO dX11_told_142 ?_
              refine zY.aload_n hO dX11_told_182 rfl ?_
              refine zY.getI zfl_X11_139 (by decide : 127 < 150) rfl rfl hO dX11_told_183 ?_
              refine zY.as (b := D 8 1) hM.2.1.2.2.2.2.2 ?_
              exact zY.iret rfl ⟨_, rfl, ⟨by unfold zA_told; rw [if_neg (by omega), if_neg (by omega), if_pos (by omega)], rfl⟩⟩ hR hO dX11_told_186
            ·
              by_cases e142_3 : x = 3
              ·
                refine zY.tswIn (off := 45) (tgt := 187) hx (by omega) (by omega) (by rw [e142_3]; rfl) (by decide) hO dX11_told_142 ?_
                refine zY.aload_n hO dX11_told_187 rfl ?_
                refine zY.getI zfl_X11_77 (by decide : 127 < 150) rfl rfl hO dX11_told_188 ?_
                refine zY.as (b := D 8 0) hM.2.1.2.2.2.2.1 ?_
                exact zY.iret rfl ⟨_, rfl, ⟨by unfold zA_told; rw [if_neg (by omega), if_neg (by omega), if_neg (by omega), if_pos (by omega)], rfl⟩⟩ hR hO dX11_told_191
              ·
                refine zY.tswOut (tgt := 192) hx (by omega) (by decide) hO dX11_told_142 ?_
                refine zY.bipush hO dX11_told_192 (by decide) ?_
                exact zY.iret rfl ⟨_, rfl, ⟨by unfold zA_told; rw [if_neg (by omega), if_neg (by omega), if_neg (by omega), if_neg (by omega), if_neg (by omega), if_neg (by omega), if_neg (by omega), if_neg (by omega), if_neg (by omega), if_neg (by omega)], rfl⟩⟩ hR hO dX11_told_194
      ·
        have hrr : ((10 ≤ x ∧ x ≤ 25) ∨ (50 ≤ x ∧ x ≤ 65)) := by rcases hmq with h | h; (· exact h.2); (· omega)
        have hat : x - x.tdiv 10 * 10 = x % 10 := by rw [Int.tdiv_eq_ediv_of_nonneg (by omega)]; omega
        refine zY.iload_n hO dX11_told_79 rfl ?_
        refine zY.iconst hO dX11_told_80 ?_
        refine zY.icmp_le (tgt := 89) ⟨by omega, by omega⟩ ⟨by omega, by omega⟩ hO dX11_told_81 (by decide) (fun c81 => ?_) (fun c81 => ?_)
        ·
          refine zY.iload_n hO dX11_told_89 rfl ?_
          refine zY.bipush hO dX11_told_90 (by decide) ?_
          refine zY.icmp_ge (tgt := 104) hx ⟨by omega, by omega⟩ hO dX11_told_92 (by decide) (fun c92 => ?_) (fun c92 => ?_)
          ·
            refine zY.iload_n hO dX11_told_104 rfl ?_
            refine zY.bipush hO dX11_told_105 (by decide) ?_
            refine zY.icmp_ge (tgt := 119) hx ⟨by omega, by omega⟩ hO dX11_told_107 (by decide) (fun c107 => ?_) (fun c107 => ?_)
            ·
              refine zY.iload_n hO dX11_told_119 rfl ?_
              refine zY.bipush hO dX11_told_120 (by decide) ?_
              refine zY.icmp_ge (tgt := 134) hx ⟨by omega, by omega⟩ hO dX11_told_122 (by decide) (fun c122 => ?_) (fun c122 => ?_)
              ·
                refine zY.aload_n hO dX11_told_134 rfl ?_
                refine zY.getR zfl_X11_31 (by decide : 127 < 150) rfl rfl hO dX11_told_135 ?_
                refine zY.iload_n hO dX11_told_138 rfl ?_
                refine zY.iald ((x % 10).toNat) (by omega) (by omega) (by decide) (by decide : 135 < 150) rfl hO dX11_told_139 ?_
                refine zY.as (b := D 7 (x - 60).toNat) (by rw [show (x - 60).toNat = (x % 10).toNat by omega]; exact hM.2.1.1 7 (by omega) (by omega) _ (by omega)) ?_
                exact zY.iret rfl ⟨_, rfl, ⟨by unfold zA_told; rw [if_neg (by omega), if_neg (by omega), if_neg (by omega), if_neg (by omega), if_neg (by omega), if_neg (by omega), if_neg (by omega), if_neg (by omega), if_neg (by omega), if_pos (by omega)], rfl⟩⟩ hR hO dX11_told_140
              ·
                refine zY.aload_n hO dX11_told_125 rfl ?_
                refine zY.getR zfl_X11_22 (by decide : 127 < 150) rfl rfl hO dX11_told_126 ?_
                refine zY.iload_n hO dX11_told_129 rfl ?_
                refine zY.iald ((x % 10).toNat) (by omega) (by omega) (by decide) (by decide : 132 < 150) rfl hO dX11_told_130 ?_
                refine zY.as (b := D 4 (x - 50).toNat) (by rw [show (x - 50).toNat = (x % 10).toNat by omega]; exact hM.2.1.1 4 (by omega) (by omega) _ (by omega)) ?_
                refine zY.goto (tgt := 140) hO dX11_told_131 (by decide) ?_
                exact zY.iret rfl ⟨_, rfl, ⟨by unfold zA_told; rw [if_neg (by omega), if_neg (by omega), if_neg (by omega), if_neg (by omega), if_neg (by omega), if_neg (by omega), if_neg (by omega), if_neg (by omega), if_pos (by omega)], rfl⟩⟩ hR hO dX11_told_140
            ·
              refine zY.aload_n hO dX11_told_110 rfl ?_
              refine zY.getR zfl_X11_25 (by decide : 127 < 150) rfl rfl hO dX11_told_111 ?_
              refine zY.iload_n hO dX11_told_114 rfl ?_
              refine zY.iald ((x % 10).toNat) (by omega) (by omega) (by decide) (by decide : 133 < 150) rfl hO dX11_told_115 ?_
              refine zY.as (b := D 5 (x - 20).toNat) (by rw [show (x - 20).toNat = (x % 10).toNat by omega]; exact hM.2.1.1 5 (by omega) (by omega) _ (by omega)) ?_
              refine zY.goto (tgt := 140) hO dX11_told_116 (by decide) ?_
              exact zY.iret rfl ⟨_, rfl, ⟨by unfold zA_told; rw [if_neg (by omega), if_neg (by omega), if_neg (by omega), if_neg (by omega), if_neg (by omega), if_pos (by omega)], rfl⟩⟩ hR hO dX11_told_140
          ·
            refine zY.aload_n hO dX11_told_95 rfl ?_
            refine zY.getR zfl_X11_28 (by decide : 127 < 150) rfl rfl hO dX11_told_96 ?_
            refine zY.iload_n hO dX11_told_99 rfl ?_
            refine zY.iald ((x % 10).toNat) (by omega) (by omega) (by decide) (by decide : 134 < 150) rfl hO dX11_told_100 ?_
            refine zY.as (b := D 6 (x - 10).toNat) (by rw [show (x - 10).toNat = (x % 10).toNat by omega]; exact hM.2.1.1 6 (by omega) (by omega) _ (by omega)) ?_
            refine zY.goto (tgt := 140) hO dX11_told_101 (by decide) ?_
            exact zY.iret rfl ⟨_, rfl, ⟨by unfold zA_told; rw [if_neg (by omega), if_neg (by omega), if_neg (by omega), if_neg (by omega), if_pos (by omega)], rfl⟩⟩ hR hO dX11_told_140
        ·
          refine zY.bipush hO dX11_told_84 (by decide) ?_
          refine zY.goto (tgt := 140) hO dX11_told_86 (by decide) ?_
          exact zY.iret rfl ⟨_, rfl, ⟨by unfold zA_told; rw [if_neg (by omega), if_neg (by omega), if_neg (by omega), if_neg (by omega), if_neg (by omega), if_neg (by omega), if_neg (by omega), if_neg (by omega), if_neg (by omega), if_neg (by omega)], rfl⟩⟩ hR hO dX11_told_140
    refine zY.i2l hx hO dX11_told_42 ?_
    refine zY.ldc2 hO zcl_X11_130 dX11_told_43 ?_
    refine zY.ldc2 hO zcl_X11_284 dX11_told_46 ?_
    refine zY.callS3iD (ct_X11_in ⟨by omega, by omega⟩ ⟨by omega, by omega⟩ ⟨by omega, by omega⟩) (by decide) zcal_X11_in zml_X11_83 (Nat.le_of_ble_eq_true rfl) rfl ⟨Nat.zero_le _, Nat.zero_le _⟩ hO dX11_told_49 ?_
    refine zY.if_ne (tgt := 69) zr_b hO dX11_told_52 (by decide) (fun c52 => ?_) (fun c52 => ?_)
    ·
      replace c52 := zb1.mp c52
      refine zY.iconst hO dX11_told_69 ?_
      refine zY.goto (tgt := 74) hO dX11_told_70 (by decide) ?_
      exact L74 _ (Or.inl ⟨rfl, by omega⟩)
    ·
      replace c52 := zb0.mp c52
      refine zY.iload_n hO dX11_told_55 rfl ?_
      refine zY.i2l hx hO dX11_told_56 ?_
      refine zY.ldc2 hO zcl_X11_286 dX11_told_57 ?_
      refine zY.ldc2 hO zcl_X11_288 dX11_told_60 ?_
      refine zY.callS3iD (ct_X11_in ⟨by omega, by omega⟩ ⟨by omega, by omega⟩ ⟨by omega, by omega⟩) (by decide) zcal_X11_in zml_X11_83 (Nat.le_of_ble_eq_true rfl) rfl ⟨Nat.zero_le _, Nat.zero_le _⟩ hO dX11_told_63 ?_
      refine zY.if_eq (tgt := 73) zr_b hO dX11_told_66 (by decide) (fun c66 => ?_) (fun c66 => ?_)
      ·
        replace c66 := zb0.mp c66
        refine zY.iconst hO dX11_told_73 ?_
        exact L74 _ (Or.inr ⟨rfl, by omega⟩)
      ·
        replace c66 := zb1.mp c66
        refine zY.iconst hO dX11_told_69 ?_
        refine zY.goto (tgt := 74) hO dX11_told_70 (by decide) ?_
        exact L74 _ (Or.inl ⟨rfl, by omega⟩)
  ·
    replace c16 := zb1.mp c16
    have hat : x - x.tdiv 10 * 10 = x % 10 := by rw [Int.tdiv_eq_ediv_of_nonneg (by omega)]; omega
    refine zY.iload_n hO dX11_told_19 rfl ?_
    refine zY.bipush hO dX11_told_20 (by decide) ?_
    refine zY.icmp_ge (tgt := 34) hx ⟨by omega, by omega⟩ hO dX11_told_22 (by decide) (fun c22 => ?_) (fun c22 => ?_)
    ·
      refine zY.aload_n hO dX11_told_34 rfl ?_
      refine zY.getR zfl_X11_16 (by decide : 127 < 150) rfl rfl hO dX11_told_35 ?_
      refine zY.iload_n hO dX11_told_38 rfl ?_
      refine zY.iald ((x % 10).toNat) (by omega) (by omega) (by decide) (by decide : 130 < 150) rfl hO dX11_told_39 ?_
      refine zY.as (b := D 2 (x - 40).toNat) (by rw [show (x - 40).toNat = (x % 10).toNat by omega]; exact hM.2.1.2.1 2 (by omega) (by omega) _ (by omega)) ?_
      exact zY.iret rfl ⟨_, rfl, ⟨by unfold zA_told; rw [if_neg (by omega), if_neg (by omega), if_neg (by omega), if_neg (by omega), if_neg (by omega), if_neg (by omega), if_neg (by omega), if_pos (by omega)], rfl⟩⟩ hR hO dX11_told_40
    ·
      refine zY.aload_n hO dX11_told_25 rfl ?_
      refine zY.getR zfl_X11_13 (by decide : 127 < 150) rfl rfl hO dX11_told_26 ?_
      refine zY.iload_n hO dX11_told_29 rfl ?_
      refine zY.iald ((x % 10).toNat) (by omega) (by omega) (by decide) (by decide : 129 < 150) rfl hO dX11_told_30 ?_
      refine zY.as (b := D 1 (x - 30).toNat) (by rw [show (x - 30).toNat = (x % 10).toNat by omega]; exact hM.2.1.2.1 1 (by omega) (by omega) _ (by omega)) ?_
      refine zY.goto (tgt := 40) hO dX11_told_31 (by decide) ?_
      exact zY.iret rfl ⟨_, rfl, ⟨by unfold zA_told; rw [if_neg (by omega), if_neg (by omega), if_neg (by omega), if_neg (by omega), if_neg (by omega), if_neg (by omega), if_pos (by omega)], rfl⟩⟩ hR hO dX11_told_40

set_option maxRecDepth 100000 in
set_option maxHeartbeats 4000000 in
theorem ct_X11_set {μ : zMem} {D : zBk} {K0 K1 : Option zBk} (hM : zMd D K0 K1 μ) {w v : Int} (hw : zr w) (hv : zr v) : Ci kX11_set 4 150 zSX [zP 127, zI w, zI v] μ (fun a μ' => a = zA_set D w v ∧ zMd (zU_set D w v) K0 K1 μ' ∧ (∀ q, q < 127 → μ' q = μ q)) := by
  refine Ct.of [some (zP 127), some (zI w), some (zI v), none, none] rfl (Nat.le_of_ble_eq_true rfl) (by decide +kernel) (fun Γ ad hO hR => ?_)
  have L28 : ∀ mq : Int, ((mq = 1 ∧ (w = 0 ∨ w = 1 ∨ (10 ≤ w ∧ w ≤ 15))) ∨ (mq = 0 ∧ ¬ (w = 0 ∨ w = 1 ∨ (10 ≤ w ∧ w ≤ 15)))) → zY Γ (150, zSX, ad, 0, 0) 28 [some (zP 127), some (zI w), some (zI v), none, none] [zI mq] μ := by
    intro mq hmq
    refine zY.istore3 (zc1_I _) hO dX11_set_28 ?_
    refine zY.iload_n hO dX11_set_29 rfl ?_
    refine zY.if_eq (tgt := 55) ⟨by omega, by omega⟩ hO dX11_set_30 (by decide) (fun c30 => ?_) (fun c30 => ?_)
    ·
      have hns : ¬ (w = 0 ∨ w = 1 ∨ (10 ≤ w ∧ w ≤ 15)) := by rcases hmq with h | h; (· omega); (· exact h.2)
      refine zY.bipush hO dX11_set_55 (by decide) ?_
      exact zY.iret rfl ⟨_, rfl, ⟨by unfold zA_set; rw [if_neg (show ¬ w = 0 by omega), if_neg (show ¬ w = 1 by omega), if_neg (show ¬ (10 ≤ w ∧ w ≤ 15) by omega)], by unfold zU_set; rw [if_neg (show ¬ w = 0 by omega), if_neg (show ¬ w = 1 by omega), if_neg (show ¬ (10 ≤ w ∧ w ≤ 15) by omega)]; exact hM, fun _ _ => rfl⟩⟩ hR hO dX11_set_57
    ·
      have hss : (w = 0 ∨ w = 1 ∨ (10 ≤ w ∧ w ≤ 15)) := by rcases hmq with h | h; (· exact h.2); (· omega)
      refine zY.iload_n hO dX11_set_33 rfl ?_
      refine zY.i2l hv hO dX11_set_34 ?_
      refine zY.lconst0 hO dX11_set_35 ?_
      refine zY.iload_n hO dX11_set_36 rfl ?_
      refine zY.if_ne (tgt := 46) hw hO dX11_set_37 (by decide) (fun c37 => ?_) (fun c37 => ?_)
      ·
        refine zY.ldc2 hO zcl_X11_128 dX11_set_46 ?_
        refine zY.callS3iD (ct_X11_in ⟨by omega, by omega⟩ ⟨by omega, by omega⟩ ⟨by omega, by omega⟩) (by decide) zcal_X11_in zml_X11_83 (Nat.le_of_ble_eq_true rfl) rfl ⟨Nat.zero_le _, Nat.zero_le _⟩ hO dX11_set_49 ?_
        refine zY.if_ne (tgt := 58) zr_b hO dX11_set_52 (by decide) (fun c52 => ?_) (fun c52 => ?_)
        ·
          replace c52 := zb1.mp c52
          refine zY.aload_n hO dX11_set_58 rfl ?_
          refine zY.iload_n hO dX11_set_59 rfl ?_
          refine zY.iconst hO dX11_set_60 ?_
          refine zY.icmp_ge (tgt := 70) hw ⟨by omega, by omega⟩ hO dX11_set_61 (by decide) (fun c61 => ?_) (fun c61 => ?_)
          ·
            refine zY.iload_n hO dX11_set_70 rfl ?_
            refine zY.callV1iD (ct_X11_told hM (by omega)) (by decide) zcal_X11_told zml_X11_136 (by decide : 127 < 150) rfl rfl (Nat.le_of_ble_eq_true rfl) rfl ⟨Nat.zero_le _, Nat.zero_le _⟩ hO dX11_set_71 ?_
            refine zY.istore4 (zc1_I _) hO dX11_set_74 ?_
            refine zY.iload_n hO dX11_set_76 rfl ?_
            refine zY.if_ne (tgt := 88) hw hO dX11_set_77 (by decide) (fun c77 => ?_) (fun c77 => ?_)
            ·
              refine zY.iload_n hO dX11_set_88 rfl ?_
              refine zY.iconst hO dX11_set_89 ?_
              refine zY.icmp_ne (tgt := 101) hw ⟨by omega, by omega⟩ hO dX11_set_90 (by decide) (fun c90 => ?_) (fun c90 => ?_)
              ·
                obtain ⟨wq, hwq⟩ : ∃ wq : Nat, w - 10 = (wq : Int) := ⟨(w - 10).toNat, by omega⟩
                refine zY.aload_n hO dX11_set_101 rfl ?_
                refine zY.getR zfl_X11_28 (by decide : 127 < 150) rfl rfl hO dX11_set_102 ?_
                refine zY.iload_n hO dX11_set_105 rfl ?_
                refine zY.bipush hO dX11_set_106 (by decide) ?_
                refine zY.isub hO dX11_set_108 ?_
                refine zY.iload_n hO dX11_set_109 rfl ?_
                refine zY.iast ((w - 10).toNat) (by omega) (by omega) (by decide) (by decide : 134 < 150) rfl hO dX11_set_110 ?_
                refine zY.iload hO dX11_set_111 rfl ?_
                exact zY.iret rfl ⟨_, rfl, ⟨by
                  have h1q : zA_told D w = D 6 (w - 10).toNat := by unfold zA_told; rw [if_neg (by omega), if_neg (by omega), if_neg (by omega), if_neg (by omega), if_pos (by omega)]
                  have h2q : zA_set D w v = D 6 (w - 10).toNat := by unfold zA_set; rw [if_neg (by omega), if_neg (by omega), if_pos (show 10 ≤ w ∧ w ≤ 15 by omega), if_pos (show 0 ≤ v ∧ v ≤ 99 by omega)]
                  rw [h1q, h2q], by unfold zU_set; rw [if_neg (show ¬ w = 0 by omega), if_neg (show ¬ w = 1 by omega), if_pos (show 10 ≤ w ∧ w ≤ 15 by omega), if_pos (show 0 ≤ v ∧ v ≤ 99 by omega)]; exact zMd_set (t := 6) hM (zWF_set6 hM.1 (by omega)) (by omega), fun q hq => zwr_ne (by omega)⟩⟩ hR hO dX11_set_113
              ·
                refine zY.aload_n hO dX11_set_93 rfl ?_
                refine zY.iload_n hO dX11_set_94 rfl ?_
                refine zY.putI zfp_X11_77 (by decide : 127 < 150) rfl rfl hO dX11_set_95 ?_
                refine zY.goto (tgt := 111) hO dX11_set_98 (by decide) ?_
                refine zY.iload hO dX11_set_111 rfl ?_
                exact zY.iret rfl ⟨_, rfl, (by exfalso; omega)⟩ hR hO dX11_set_113
            ·
              refine zY.aload_n hO dX11_set_80 rfl ?_
              refine zY.iload_n hO dX11_set_81 rfl ?_
              refine zY.putI zfp_X11_139 (by decide : 127 < 150) rfl rfl hO dX11_set_82 ?_
              refine zY.goto (tgt := 111) hO dX11_set_85 (by decide) ?_
              refine zY.iload hO dX11_set_111 rfl ?_
              exact zY.iret rfl ⟨_, rfl, (by exfalso; omega)⟩ hR hO dX11_set_113
          ·
            refine zY.iconst hO dX11_set_64 ?_
            refine zY.iload_n hO dX11_set_65 rfl ?_
            refine zY.iadd hO dX11_set_66 ?_
            refine zY.goto (tgt := 71) hO dX11_set_67 (by decide) ?_
            refine zY.callV1iD (ct_X11_told hM (by omega)) (by decide) zcal_X11_told zml_X11_136 (by decide : 127 < 150) rfl rfl (Nat.le_of_ble_eq_true rfl) rfl ⟨Nat.zero_le _, Nat.zero_le _⟩ hO dX11_set_71 ?_
            refine zY.istore4 (zc1_I _) hO dX11_set_74 ?_
            refine zY.iload_n hO dX11_set_76 rfl ?_
            refine zY.if_ne (tgt := 88) hw hO dX11_set_77 (by decide) (fun c77 => ?_) (fun c77 => ?_)
            ·
              refine zY.iload_n hO dX11_set_88 rfl ?_
              refine zY.iconst hO dX11_set_89 ?_
              refine zY.icmp_ne (tgt := 101) hw ⟨by omega, by omega⟩ hO dX11_set_90 (by decide) (fun c90 => ?_) (fun c90 => ?_)
              ·
                obtain ⟨wq, hwq⟩ : ∃ wq : Nat, w - 10 = (wq : Int) := ⟨(w - 10).toNat, by omega⟩
                refine zY.aload_n hO dX11_set_101 rfl ?_
                refine zY.getR zfl_X11_28 (by decide : 127 < 150) rfl rfl hO dX11_set_102 ?_
                refine zY.iload_n hO dX11_set_105 rfl ?_
                refine zY.bipush hO dX11_set_106 (by decide) ?_
                refine zY.isub hO dX11_set_108 ?_
                refine zY.iload_n hO dX11_set_109 rfl ?_
                refine zY.iast ((w - 10).toNat) (by omega) (by omega) (by decide) (by decide : 134 < 150) rfl hO dX11_set_110 ?_
                refine zY.iload hO dX11_set_111 rfl ?_
                exact zY.iret rfl ⟨_, rfl, (by exfalso; omega)⟩ hR hO dX11_set_113
              ·
                refine zY.aload_n hO dX11_set_93 rfl ?_
                refine zY.iload_n hO dX11_set_94 rfl ?_
                refine zY.putI zfp_X11_77 (by decide : 127 < 150) rfl rfl hO dX11_set_95 ?_
                refine zY.goto (tgt := 111) hO dX11_set_98 (by decide) ?_
                refine zY.iload hO dX11_set_111 rfl ?_
                exact zY.iret rfl ⟨_, rfl, ⟨by unfold zA_set zA_told; rw [if_neg (show ¬ w = 0 by omega), if_pos (show w = 1 by omega), if_pos (show 0 ≤ v ∧ v ≤ 99 by omega), if_neg (by omega), if_neg (by omega), if_neg (by omega), if_pos (by omega)], by unfold zU_set; rw [if_neg (show ¬ w = 0 by omega), if_pos (show w = 1 by omega), if_pos (show 0 ≤ v ∧ v ≤ 99 by omega)]; exact zMd_fld (k := 0) hM (zWF_set80 hM.1 (by omega)) (by omega), fun q hq => zwr_ne (by omega)⟩⟩ hR hO dX11_set_113
            ·
              refine zY.aload_n hO dX11_set_80 rfl ?_
              refine zY.iload_n hO dX11_set_81 rfl ?_
              refine zY.putI zfp_X11_139 (by decide : 127 < 150) rfl rfl hO dX11_set_82 ?_
              refine zY.goto (tgt := 111) hO dX11_set_85 (by decide) ?_
              refine zY.iload hO dX11_set_111 rfl ?_
              exact zY.iret rfl ⟨_, rfl, (by exfalso; omega)⟩ hR hO dX11_set_113
        ·
          replace c52 := zb0.mp c52
          refine zY.bipush hO dX11_set_55 (by decide) ?_
          exact zY.iret rfl ⟨_, rfl, ⟨by
            unfold zA_set
            rw [if_neg (show ¬ w = 0 by omega)]
            by_cases e1 : w = 1
            · rw [if_pos e1, if_neg (show ¬ (0 ≤ v ∧ v ≤ 99) by omega)]
            · rw [if_neg e1, if_pos (show 10 ≤ w ∧ w ≤ 15 by omega), if_neg (show ¬ (0 ≤ v ∧ v ≤ 99) by omega)], by
            unfold zU_set
            rw [if_neg (show ¬ w = 0 by omega)]
            by_cases e1 : w = 1
            · rw [if_pos e1, if_neg (show ¬ (0 ≤ v ∧ v ≤ 99) by omega)]; exact hM
            · rw [if_neg e1, if_pos (show 10 ≤ w ∧ w ≤ 15 by omega), if_neg (show ¬ (0 ≤ v ∧ v ≤ 99) by omega)]; exact hM, fun _ _ => rfl⟩⟩ hR hO dX11_set_57
      ·
        refine zY.ldc2 hO zcl_X11_134 dX11_set_40 ?_
        refine zY.goto (tgt := 49) hO dX11_set_43 (by decide) ?_
        refine zY.callS3iD (ct_X11_in ⟨by omega, by omega⟩ ⟨by omega, by omega⟩ ⟨by omega, by omega⟩) (by decide) zcal_X11_in zml_X11_83 (Nat.le_of_ble_eq_true rfl) rfl ⟨Nat.zero_le _, Nat.zero_le _⟩ hO dX11_set_49 ?_
        refine zY.if_ne (tgt := 58) zr_b hO dX11_set_52 (by decide) (fun c52 => ?_) (fun c52 => ?_)
        ·
          replace c52 := zb1.mp c52
          refine zY.aload_n hO dX11_set_58 rfl ?_
          refine zY.iload_n hO dX11_set_59 rfl ?_
          refine zY.iconst hO dX11_set_60 ?_
          refine zY.icmp_ge (tgt := 70) hw ⟨by omega, by omega⟩ hO dX11_set_61 (by decide) (fun c61 => ?_) (fun c61 => ?_)
          ·
            refine zY.iload_n hO dX11_set_70 rfl ?_
            refine zY.callV1iD (ct_X11_told hM (by omega)) (by decide) zcal_X11_told zml_X11_136 (by decide : 127 < 150) rfl rfl (Nat.le_of_ble_eq_true rfl) rfl ⟨Nat.zero_le _, Nat.zero_le _⟩ hO dX11_set_71 ?_
            refine zY.istore4 (zc1_I _) hO dX11_set_74 ?_
            refine zY.iload_n hO dX11_set_76 rfl ?_
            refine zY.if_ne (tgt := 88) hw hO dX11_set_77 (by decide) (fun c77 => ?_) (fun c77 => ?_)
            ·
              refine zY.iload_n hO dX11_set_88 rfl ?_
              refine zY.iconst hO dX11_set_89 ?_
              refine zY.icmp_ne (tgt := 101) hw ⟨by omega, by omega⟩ hO dX11_set_90 (by decide) (fun c90 => ?_) (fun c90 => ?_)
              ·
                obtain ⟨wq, hwq⟩ : ∃ wq : Nat, w - 10 = (wq : Int) := ⟨(w - 10).toNat, by omega⟩
                refine zY.aload_n hO dX11_set_101 rfl ?_
                refine zY.getR zfl_X11_28 (by decide : 127 < 150) rfl rfl hO dX11_set_102 ?_
                refine zY.iload_n hO dX11_set_105 rfl ?_
                refine zY.bipush hO dX11_set_106 (by decide) ?_
                refine zY.isub hO dX11_set_108 ?_
                refine zY.iload_n hO dX11_set_109 rfl ?_
                refine zY.iast ((w - 10).toNat) (by omega) (by omega) (by decide) (by decide : 134 < 150) rfl hO dX11_set_110 ?_
                refine zY.iload hO dX11_set_111 rfl ?_
                exact zY.iret rfl ⟨_, rfl, (by exfalso; omega)⟩ hR hO dX11_set_113
              ·
                refine zY.aload_n hO dX11_set_93 rfl ?_
                refine zY.iload_n hO dX11_set_94 rfl ?_
                refine zY.putI zfp_X11_77 (by decide : 127 < 150) rfl rfl hO dX11_set_95 ?_
                refine zY.goto (tgt := 111) hO dX11_set_98 (by decide) ?_
                refine zY.iload hO dX11_set_111 rfl ?_
                exact zY.iret rfl ⟨_, rfl, (by exfalso; omega)⟩ hR hO dX11_set_113
            ·
              refine zY.aload_n hO dX11_set_80 rfl ?_
              refine zY.iload_n hO dX11_set_81 rfl ?_
              refine zY.putI zfp_X11_139 (by decide : 127 < 150) rfl rfl hO dX11_set_82 ?_
              refine zY.goto (tgt := 111) hO dX11_set_85 (by decide) ?_
              refine zY.iload hO dX11_set_111 rfl ?_
              exact zY.iret rfl ⟨_, rfl, (by exfalso; omega)⟩ hR hO dX11_set_113
          ·
            refine zY.iconst hO dX11_set_64 ?_
            refine zY.iload_n hO dX11_set_65 rfl ?_
            refine zY.iadd hO dX11_set_66 ?_
            refine zY.goto (tgt := 71) hO dX11_set_67 (by decide) ?_
            refine zY.callV1iD (ct_X11_told hM (by omega)) (by decide) zcal_X11_told zml_X11_136 (by decide : 127 < 150) rfl rfl (Nat.le_of_ble_eq_true rfl) rfl ⟨Nat.zero_le _, Nat.zero_le _⟩ hO dX11_set_71 ?_
            refine zY.istore4 (zc1_I _) hO dX11_set_74 ?_
            refine zY.iload_n hO dX11_set_76 rfl ?_
            refine zY.if_ne (tgt := 88) hw hO dX11_set_77 (by decide) (fun c77 => ?_) (fun c77 => ?_)
            ·
              refine zY.iload_n hO dX11_set_88 rfl ?_
              refine zY.iconst hO dX11_set_89 ?_
              refine zY.icmp_ne (tgt := 101) hw ⟨by omega, by omega⟩ hO dX11_set_90 (by decide) (fun c90 => ?_) (fun c90 => ?_)
              ·
                obtain ⟨wq, hwq⟩ : ∃ wq : Nat, w - 10 = (wq : Int) := ⟨(w - 10).toNat, by omega⟩
                refine zY.aload_n hO dX11_set_101 rfl ?_
                refine zY.getR zfl_X11_28 (by decide : 127 < 150) rfl rfl hO dX11_set_102 ?_
                refine zY.iload_n hO dX11_set_105 rfl ?_
                refine zY.bipush hO dX11_set_106 (by decide) ?_
                refine zY.isub hO dX11_set_108 ?_
                refine zY.iload_n hO dX11_set_109 rfl ?_
                refine zY.iast ((w - 10).toNat) (by omega) (by omega) (by decide) (by decide : 134 < 150) rfl hO dX11_set_110 ?_
                refine zY.iload hO dX11_set_111 rfl ?_
                exact zY.iret rfl ⟨_, rfl, (by exfalso; omega)⟩ hR hO dX11_set_113
              ·
                refine zY.aload_n hO dX11_set_93 rfl ?_
                refine zY.iload_n hO dX11_set_94 rfl ?_
                refine zY.putI zfp_X11_77 (by decide : 127 < 150) rfl rfl hO dX11_set_95 ?_
                refine zY.goto (tgt := 111) hO dX11_set_98 (by decide) ?_
                refine zY.iload hO dX11_set_111 rfl ?_
                exact zY.iret rfl ⟨_, rfl, (by exfalso; omega)⟩ hR hO dX11_set_113
            ·
              refine zY.aload_n hO dX11_set_80 rfl ?_
              refine zY.iload_n hO dX11_set_81 rfl ?_
              refine zY.putI zfp_X11_139 (by decide : 127 < 150) rfl rfl hO dX11_set_82 ?_
              refine zY.goto (tgt := 111) hO dX11_set_85 (by decide) ?_
              refine zY.iload hO dX11_set_111 rfl ?_
              exact zY.iret rfl ⟨_, rfl, ⟨by unfold zA_set zA_told; rw [if_pos (show w = 0 by omega), if_pos (show 0 ≤ v ∧ v ≤ 3 by omega), if_neg (by omega), if_neg (by omega), if_pos (by omega)], by unfold zU_set; rw [if_pos (show w = 0 by omega), if_pos (show 0 ≤ v ∧ v ≤ 3 by omega)]; exact zMd_fld (k := 1) hM (zWF_set81 hM.1 (by omega)) (by omega), fun q hq => zwr_ne (by omega)⟩⟩ hR hO dX11_set_113
        ·
          replace c52 := zb0.mp c52
          refine zY.bipush hO dX11_set_55 (by decide) ?_
          exact zY.iret rfl ⟨_, rfl, ⟨by unfold zA_set; rw [if_pos (show w = 0 by omega), if_neg (show ¬ (0 ≤ v ∧ v ≤ 3) by omega)], by unfold zU_set; rw [if_pos (show w = 0 by omega), if_neg (show ¬ (0 ≤ v ∧ v ≤ 3) by omega)]; exact hM, fun _ _ => rfl⟩⟩ hR hO dX11_set_57
  refine zY.iload_n hO dX11_set_0 rfl ?_
  refine zY.if_eq (tgt := 23) hw hO dX11_set_1 (by decide) (fun c1 => ?_) (fun c1 => ?_)
  ·
    refine zY.iconst hO dX11_set_23 ?_
    refine zY.goto (tgt := 28) hO dX11_set_24 (by decide) ?_
    exact L28 _ (Or.inl ⟨rfl, by omega⟩)
  ·
    refine zY.iload_n hO dX11_set_4 rfl ?_
    refine zY.iconst hO dX11_set_5 ?_
    refine zY.icmp_eq (tgt := 23) hw ⟨by omega, by omega⟩ hO dX11_set_6 (by decide) (fun c6 => ?_) (fun c6 => ?_)
    ·
      refine zY.iconst hO dX11_set_23 ?_
      refine zY.goto (tgt := 28) hO dX11_set_24 (by decide) ?_
      exact L28 _ (Or.inl ⟨rfl, by omega⟩)
    ·
      refine zY.iload_n hO dX11_set_9 rfl ?_
      refine zY.i2l hw hO dX11_set_10 ?_
      refine zY.ldc2 hO zcl_X11_130 dX11_set_11 ?_
      refine zY.ldc2 hO zcl_X11_132 dX11_set_14 ?_
      refine zY.callS3iD (ct_X11_in ⟨by omega, by omega⟩ ⟨by omega, by omega⟩ ⟨by omega, by omega⟩) (by decide) zcal_X11_in zml_X11_83 (Nat.le_of_ble_eq_true rfl) rfl ⟨Nat.zero_le _, Nat.zero_le _⟩ hO dX11_set_17 ?_
      refine zY.if_eq (tgt := 27) zr_b hO dX11_set_20 (by decide) (fun c20 => ?_) (fun c20 => ?_)
      ·
        replace c20 := zb0.mp c20
        refine zY.iconst hO dX11_set_27 ?_
        exact L28 _ (Or.inr ⟨rfl, by omega⟩)
      ·
        replace c20 := zb1.mp c20
        refine zY.iconst hO dX11_set_23 ?_
        refine zY.goto (tgt := 28) hO dX11_set_24 (by decide) ?_
        exact L28 _ (Or.inl ⟨rfl, by omega⟩)
