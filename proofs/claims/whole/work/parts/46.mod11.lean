/-! the model: image, restore -/
/-- which number is kept at which place of a row of 132 -/
def zpq (n : Nat) : Nat × Nat := if n < 2 then (127, 8 + n) else if n < 52 then (128, n - 2) else if n < 72 then (129 + (n - 52) % 2, (n - 52) / 2) else if n < 108 then (131, n - 72) else (132 + (n - 108) % 4, (n - 108) / 4)
theorem zpq_a : ∀ i, i < 50 → zpq (2 + i) = (128, i) := by decide +kernel
theorem zpq_b : ∀ i, i < 10 → zpq (52 + 2 * i) = (129, i) ∧ zpq (52 + 2 * i + 1) = (130, i) := by decide +kernel
theorem zpq_c : ∀ i, i < 36 → zpq (72 + i) = (131, i) := by decide +kernel
theorem zpq_d : ∀ i, i < 6 → zpq (108 + 4 * i) = (132, i) ∧ zpq (108 + 4 * i + 1) = (133, i) ∧ zpq (108 + 4 * i + 2) = (134, i) ∧ zpq (108 + 4 * i + 3) = (135, i) := by decide +kernel
theorem zpq_i : ∀ a, a < 132 → ∀ b, b < 132 → zpq a = zpq b → a = b := by decide +kernel
theorem zpq_r : ∀ a, a < 132 → ((zpq a).1 = 127 ∧ (8 = (zpq a).2 ∨ 9 = (zpq a).2)) ∨ (128 ≤ (zpq a).1 ∧ (zpq a).1 ≤ 135) := by decide +kernel
theorem zwr_self {μ : zMem} {q k : Nat} {v : Int} (h : v = μ q k) : zwr μ q k v = μ := by
  funext q' k'
  unfold zwr
  by_cases e1 : q' = q
  · rw [if_pos e1]
    by_cases e2 : k' = k
    · rw [if_pos e2, h, e1, e2]
    · rw [if_neg e2]
  · rw [if_neg e1]
theorem zwr_at {μ : zMem} {q k : Nat} {v : Int} : zwr μ q k v q k = v := by simp [zwr]
theorem zwr_nk {μ : zMem} {q k q' k' : Nat} {v : Int} (h : ¬ (q' = q ∧ k' = k)) : zwr μ q k v q' k' = μ q' k' := by
  unfold zwr
  by_cases e1 : q' = q
  · rw [if_pos e1, if_neg (fun z => h ⟨e1, z⟩)]
  · rw [if_neg e1]
/-- the first c numbers are passed: mode 1 is writing, 0 reading -/
def zIv (m : Int) (b : Nat) (μ : zMem) (c : Nat) (μ1 : zMem) : Prop :=
  (∀ q, q ≠ 127 → q ≠ 148 → (q < 128 ∨ 135 < q) → μ1 q = μ q) ∧ (∀ j, j ≠ 8 → j ≠ 9 → j ≠ 28 → μ1 127 j = μ 127 j) ∧ μ 127 29 = m ∧ μ1 127 28 = ((b + c : Nat) : Int) ∧
  (m = 1 → (∀ q, 128 ≤ q → q ≤ 135 → μ1 q = μ q) ∧ μ1 127 8 = μ 127 8 ∧ μ1 127 9 = μ 127 9 ∧ ∀ j, (j < b ∨ b + 132 ≤ j) → μ1 148 j = μ 148 j) ∧ (m = 0 → μ1 148 = μ 148) ∧
  ∀ n, n < c → μ1 148 (b + n) = μ1 (zpq n).1 (zpq n).2
theorem zIv_step {m r : Int} {b c q k : Nat} {μ μ1 : zMem} (h : zIv m b μ c μ1) (hc : c < 132) (hq : zpq c = (q, k)) (hr : r = if m = 1 then μ1 q k else μ1 148 (b + c)) (hm : m = 0 ∨ m = 1) : zIv m b μ (c + 1) (zwr (zwr (zwr μ1 148 (b + c) r) 127 28 ((b + c + 1 : Nat) : Int)) q k r) := by
  obtain ⟨h1, h2, h3, h4, h5, h6, h7⟩ := h
  have hzr := zpq_r c hc
  rw [hq] at hzr
  dsimp only at hzr
  have hq148 : q ≠ 148 := by omega
  refine ⟨fun q' a b2 c2 => ?_, fun j a b2 c2 => ?_, h3, ?_, fun e => ?_, fun e => ?_, fun n hn => ?_⟩
  · rw [zwr_ne (by omega), zwr_ne a, zwr_ne b2]; exact h1 q' a b2 c2
  · rw [zwr_nk (by omega), zwr_nk (by omega), zwr_nk (by omega)]; exact h2 j a b2 c2
  · rw [zwr_nk (by omega), zwr_at]; rfl
  · rw [if_pos e] at hr
    obtain ⟨g1, g2, g3, g4⟩ := h5 e
    have hs : zwr (zwr (zwr μ1 148 (b + c) r) 127 28 ((b + c + 1 : Nat) : Int)) q k r = zwr (zwr μ1 148 (b + c) r) 127 28 ((b + c + 1 : Nat) : Int) := zwr_self (by rw [zwr_nk (by omega), zwr_nk (by omega)]; exact hr)
    rw [hs]
    refine ⟨fun q' a b2 => ?_, ?_, ?_, fun j hj => ?_⟩
    · rw [zwr_ne (by omega), zwr_ne (by omega)]; exact g1 q' a b2
    · rw [zwr_nk (by omega), zwr_nk (by omega)]; exact g2
    · rw [zwr_nk (by omega), zwr_nk (by omega)]; exact g3
    · rw [zwr_nk (by omega), zwr_nk (by omega)]; exact g4 j hj
  · rw [if_neg (by omega)] at hr
    rw [zwr_ne (by omega), zwr_ne (by omega), zwr_self hr]
    exact h6 e
  · by_cases e : n = c
    · subst e
      rw [hq]
      dsimp only
      rw [zwr_at, zwr_nk (by omega), zwr_nk (by omega), zwr_at]
    · have hne : ¬ ((zpq n).1 = q ∧ (zpq n).2 = k) := fun z => e (zpq_i n (by omega) c hc (by rw [hq, ← z.1, ← z.2]))
      have hzn := zpq_r n (by omega)
      rw [zwr_nk (q' := 148) (by omega), zwr_nk (q' := 148) (by omega), zwr_nk (q' := 148) (by omega), zwr_nk hne, zwr_nk (by omega), zwr_nk (by omega)]
      exact h7 n (by omega)
theorem zIv.m29 {m : Int} {b c : Nat} {μ μ1 : zMem} (h : zIv m b μ c μ1) : μ1 127 29 = m := (h.2.1 29 (by decide) (by decide) (by decide)).trans h.2.2.1
theorem zIv.p28 {m : Int} {b c : Nat} {μ μ1 : zMem} (h : zIv m b μ c μ1) : μ1 127 28 = ((b + c : Nat) : Int) := h.2.2.2.1
theorem zIv_0 {m : Int} {b : Nat} {μ : zMem} (h1 : μ 127 29 = m) (h2 : μ 127 28 = (b : Int)) : zIv m b μ 0 μ := ⟨fun _ _ _ _ => rfl, fun _ _ _ _ => rfl, h1, h2, fun _ => ⟨fun _ _ _ => rfl, rfl, rfl, fun _ _ => rfl⟩, fun _ => rfl, fun n h => by omega⟩
/-- what is kept, told by the model's own numbers -/
theorem zIv_kp {m : Int} {b : Nat} {μ μ1 : zMem} {E : zBk} (h : zIv m b μ 132 μ1) (hW : zWF E) (hS : zMS E μ1) : zKp b E (μ1 148) := by
  have g := h.2.2.2.2.2.2
  refine ⟨fun w hw => ⟨?_, ?_, fun i hi => ?_⟩, fun s hs => ⟨?_, ?_, ?_, ?_, fun i hi => ?_⟩, ?_, ?_⟩
  · have h1 := g (52 + 2 * w) (by omega)
    rw [(zpq_b w hw).1] at h1
    rw [show b + 52 + 2 * w = b + (52 + 2 * w) by omega, h1]; exact hS.2.1 1 (by omega) (by omega) w hw
  · have h1 := g (52 + 2 * w + 1) (by omega)
    rw [(zpq_b w hw).2] at h1
    rw [show b + 53 + 2 * w = b + (52 + 2 * w + 1) by omega, h1]; exact hS.2.1 2 (by omega) (by omega) w hw
  · have hl := (hW.1 w hw).2.1
    have h1 := g (2 + (5 * w + i)) (by omega)
    rw [zpq_a _ (by omega)] at h1
    rw [show b + 2 + (5 * w + i) = b + (2 + (5 * w + i)) by omega, h1]; exact hS.2.2.1 w hw i hi
  · have h1 := g (108 + 4 * s) (by omega)
    rw [(zpq_d s hs).1] at h1
    rw [show b + 108 + 4 * s = b + (108 + 4 * s) by omega, h1]; exact hS.1 4 (by omega) (by omega) s hs
  · have h1 := g (108 + 4 * s + 1) (by omega)
    rw [(zpq_d s hs).2.1] at h1
    rw [show b + 109 + 4 * s = b + (108 + 4 * s + 1) by omega, h1]; exact hS.1 5 (by omega) (by omega) s hs
  · have h1 := g (108 + 4 * s + 2) (by omega)
    rw [(zpq_d s hs).2.2.1] at h1
    rw [show b + 110 + 4 * s = b + (108 + 4 * s + 2) by omega, h1]; exact hS.1 6 (by omega) (by omega) s hs
  · have h1 := g (108 + 4 * s + 3) (by omega)
    rw [(zpq_d s hs).2.2.2] at h1
    rw [show b + 111 + 4 * s = b + (108 + 4 * s + 3) by omega, h1]; exact hS.1 7 (by omega) (by omega) s hs
  · have hl := (hW.2.1 s hs).2.1
    have h1 := g (72 + (6 * s + i)) (by omega)
    rw [zpq_c _ (by omega)] at h1
    rw [show b + 72 + (6 * s + i) = b + (72 + (6 * s + i)) by omega, h1]; exact hS.2.2.2.1 s hs i hi
  · have h1 := g 0 (by omega)
    exact h1.trans hS.2.2.2.2.1
  · have h1 := g 1 (by omega)
    exact h1.trans hS.2.2.2.2.2
theorem zIv_ms {m : Int} {b : Nat} {μ μ1 : zMem} {E : zBk} (h : zIv m b μ 132 μ1) (hW : zWF E) (hK : zKp b E (μ1 148)) : zMS E μ1 := by
  have g := h.2.2.2.2.2.2
  refine ⟨fun t a c s hs => ?_, fun t a c w hw => ?_, fun w hw i hi => ?_, fun s hs i hi => ?_, ?_, ?_⟩
  · have hk := hK.2.1 s hs
    have hd := zpq_d s hs
    have : t = 4 ∨ t = 5 ∨ t = 6 ∨ t = 7 := by omega
    rcases this with rfl | rfl | rfl | rfl
    · have h1 := g (108 + 4 * s) (by omega)
      rw [hd.1, show b + (108 + 4 * s) = b + 108 + 4 * s by omega, hk.1] at h1
      exact h1.symm
    · have h1 := g (108 + 4 * s + 1) (by omega)
      rw [hd.2.1, show b + (108 + 4 * s + 1) = b + 109 + 4 * s by omega, hk.2.1] at h1
      exact h1.symm
    · have h1 := g (108 + 4 * s + 2) (by omega)
      rw [hd.2.2.1, show b + (108 + 4 * s + 2) = b + 110 + 4 * s by omega, hk.2.2.1] at h1
      exact h1.symm
    · have h1 := g (108 + 4 * s + 3) (by omega)
      rw [hd.2.2.2, show b + (108 + 4 * s + 3) = b + 111 + 4 * s by omega, hk.2.2.2.1] at h1
      exact h1.symm
  · have hk := hK.1 w hw
    have hd := zpq_b w hw
    have : t = 1 ∨ t = 2 := by omega
    rcases this with rfl | rfl
    · have h1 := g (52 + 2 * w) (by omega)
      rw [hd.1, show b + (52 + 2 * w) = b + 52 + 2 * w by omega, hk.1] at h1
      exact h1.symm
    · have h1 := g (52 + 2 * w + 1) (by omega)
      rw [hd.2, show b + (52 + 2 * w + 1) = b + 53 + 2 * w by omega, hk.2.1] at h1
      exact h1.symm
  · have hl := (hW.1 w hw).2.1
    have h1 := g (2 + (5 * w + i)) (by omega)
    rw [zpq_a _ (by omega), show b + (2 + (5 * w + i)) = b + 2 + (5 * w + i) by omega, (hK.1 w hw).2.2 i hi] at h1
    exact h1.symm
  · have hl := (hW.2.1 s hs).2.1
    have h1 := g (72 + (6 * s + i)) (by omega)
    rw [zpq_c _ (by omega), show b + (72 + (6 * s + i)) = b + 72 + (6 * s + i) by omega, (hK.2.1 s hs).2.2.2.2 i hi] at h1
    exact h1.symm
  · have h1 := g 0 (by omega)
    exact h1.symm.trans hK.2.2.1
  · have h1 := g 1 (by omega)
    exact h1.symm.trans hK.2.2.2
theorem zKp_congr {b : Nat} {E : zBk} {f f2 : Nat → Int} (hW : zWF E) (h : zKp b E f) (he : ∀ j, b ≤ j → j < b + 132 → f2 j = f j) : zKp b E f2 := by
  refine ⟨fun w hw => ?_, fun s hs => ?_, ?_, ?_⟩
  · have h1 := h.1 w hw
    have hl := (hW.1 w hw).2.1
    exact ⟨by rw [he _ (by omega) (by omega)]; exact h1.1, by rw [he _ (by omega) (by omega)]; exact h1.2.1, fun i hi => by rw [he _ (by omega) (by omega)]; exact h1.2.2 i hi⟩
  · have h1 := h.2.1 s hs
    have hl := (hW.2.1 s hs).2.1
    exact ⟨by rw [he _ (by omega) (by omega)]; exact h1.1, by rw [he _ (by omega) (by omega)]; exact h1.2.1, by rw [he _ (by omega) (by omega)]; exact h1.2.2.1, by rw [he _ (by omega) (by omega)]; exact h1.2.2.2.1, fun i hi => by rw [he _ (by omega) (by omega)]; exact h1.2.2.2.2 i hi⟩
  · rw [he _ (by omega) (by omega)]; exact h.2.2.1
  · rw [he _ (by omega) (by omega)]; exact h.2.2.2

set_option maxRecDepth 100000 in
set_option maxHeartbeats 4000000 in
theorem ct_X11_pass {μ : zMem} {m v : Int} {p : Nat} (hm : m = 0 ∨ m = 1) (h29 : μ 127 29 = m) (h28 : μ 127 28 = (p : Int)) (hp : p < 320) : Ci kX11_pass 1 150 zSX [zP 127, zI v] μ (fun r μ' => r = (if m = 1 then v else μ 148 p) ∧ μ' = zwr (zwr μ 148 p (if m = 1 then v else μ 148 p)) 127 28 ((p + 1 : Nat) : Int)) := by
  refine Ct.of [some (zP 127), some (zI v), none] rfl (Nat.le_of_ble_eq_true rfl) (by decide +kernel) (fun Γ ad hO hR => ?_)
  refine zY.aload_n hO dX11_pass_0 rfl ?_
  refine zY.getI zfl_X11_269 (by decide : 127 < 150) rfl rfl hO dX11_pass_1 ?_
  refine zY.as h29 ?_
  refine zY.if_eq (tgt := 11) ⟨by omega, by omega⟩ hO dX11_pass_4 (by decide) (fun c4 => ?_) (fun c4 => ?_)
  ·
    refine zY.aload_n hO dX11_pass_11 rfl ?_
    refine zY.getR zfl_X11_70 (by decide : 127 < 150) rfl rfl hO dX11_pass_12 ?_
    refine zY.aload_n hO dX11_pass_15 rfl ?_
    refine zY.getI zfl_X11_273 (by decide : 127 < 150) rfl rfl hO dX11_pass_16 ?_
    refine zY.as h28 ?_
    refine zY.iald (p) rfl (by omega) (by decide) (by decide : 148 < 150) rfl hO dX11_pass_19 ?_
    refine zY.as (b := (if m = 1 then v else μ 148 p)) (by rw [if_neg (by omega)]) ?_
    refine zY.istore2 (zc1_I _) hO dX11_pass_20 ?_
    refine zY.aload_n hO dX11_pass_21 rfl ?_
    refine zY.getR zfl_X11_70 (by decide : 127 < 150) rfl rfl hO dX11_pass_22 ?_
    refine zY.aload_n hO dX11_pass_25 rfl ?_
    refine zY.getI zfl_X11_273 (by decide : 127 < 150) rfl rfl hO dX11_pass_26 ?_
    refine zY.iload_n hO dX11_pass_29 rfl ?_
    refine zY.iast (p) h28 (by omega) (by decide) (by decide : 148 < 150) rfl hO dX11_pass_30 ?_
    refine zY.aload_n hO dX11_pass_31 rfl ?_
    refine zY.dup rfl hO dX11_pass_32 ?_
    refine zY.getI zfl_X11_273 (by decide : 127 < 150) rfl rfl hO dX11_pass_33 ?_
    refine zY.as (b := (p : Int)) (by rw [zwr_ne (by decide)]; exact h28) ?_
    refine zY.iconst hO dX11_pass_36 ?_
    refine zY.iadd hO dX11_pass_37 ?_
    refine zY.as (b := ((p + 1 : Nat) : Int)) (by omega) ?_
    refine zY.putI zfp_X11_273 (by decide : 127 < 150) rfl rfl hO dX11_pass_38 ?_
    refine zY.iload_n hO dX11_pass_41 rfl ?_
    exact zY.iret rfl ⟨_, rfl, ⟨rfl, rfl⟩⟩ hR hO dX11_pass_42
  ·
    refine zY.iload_n hO dX11_pass_7 rfl ?_
    refine zY.goto (tgt := 20) hO dX11_pass_8 (by decide) ?_
    refine zY.as (b := (if m = 1 then v else μ 148 p)) (by rw [if_pos (by omega)]) ?_
    refine zY.istore2 (zc1_I _) hO dX11_pass_20 ?_
    refine zY.aload_n hO dX11_pass_21 rfl ?_
    refine zY.getR zfl_X11_70 (by decide : 127 < 150) rfl rfl hO dX11_pass_22 ?_
    refine zY.aload_n hO dX11_pass_25 rfl ?_
    refine zY.getI zfl_X11_273 (by decide : 127 < 150) rfl rfl hO dX11_pass_26 ?_
    refine zY.iload_n hO dX11_pass_29 rfl ?_
    refine zY.iast (p) h28 (by omega) (by decide) (by decide : 148 < 150) rfl hO dX11_pass_30 ?_
    refine zY.aload_n hO dX11_pass_31 rfl ?_
    refine zY.dup rfl hO dX11_pass_32 ?_
    refine zY.getI zfl_X11_273 (by decide : 127 < 150) rfl rfl hO dX11_pass_33 ?_
    refine zY.as (b := (p : Int)) (by rw [zwr_ne (by decide)]; exact h28) ?_
    refine zY.iconst hO dX11_pass_36 ?_
    refine zY.iadd hO dX11_pass_37 ?_
    refine zY.as (b := ((p + 1 : Nat) : Int)) (by omega) ?_
    refine zY.putI zfp_X11_273 (by decide : 127 < 150) rfl rfl hO dX11_pass_38 ?_
    refine zY.iload_n hO dX11_pass_41 rfl ?_
    exact zY.iret rfl ⟨_, rfl, ⟨rfl, rfl⟩⟩ hR hO dX11_pass_42

set_option maxRecDepth 100000 in
set_option maxHeartbeats 4000000 in
theorem ct_X11_passAll {μ : zMem} {m : Int} {b : Nat} (hm : m = 0 ∨ m = 1) (hw : μ 127 29 = m) (hp0 : μ 127 28 = (b : Int)) (hb : b ≤ 160) : Cv kX11_passAll 2 150 zSX [zP 127] μ (fun μ' => zIv m b μ 132 μ') := by
  refine Ct.of [some (zP 127), none] rfl (Nat.le_of_ble_eq_true rfl) (by decide +kernel) (fun Γ ad hO hR => ?_)
  have hI := zIv_0 hw hp0
  refine zY.aload_n hO dX11_passAll_0 rfl ?_
  refine zY.aload_n hO dX11_passAll_1 rfl ?_
  refine zY.aload_n hO dX11_passAll_2 rfl ?_
  refine zY.getI zfl_X11_77 (by decide : 127 < 150) rfl rfl hO dX11_passAll_3 ?_
  refine zY.callV1iD (ct_X11_pass (p := b) hm hw hp0 (by omega)) (by decide) zcal_X11_pass zml_X11_276 (by decide : 127 < 150) rfl rfl (Nat.le_of_ble_eq_true rfl) rfl ⟨Nat.zero_le _, Nat.zero_le _⟩ hO dX11_passAll_6 ?_
  refine zY.putI zfp_X11_77 (by decide : 127 < 150) rfl rfl hO dX11_passAll_9 ?_
  have hI : zIv m b μ 1 _ := zIv_step hI (by omega) (q := 127) (k := 8) rfl rfl hm
  refine zY.aload_n hO dX11_passAll_12 rfl ?_
  refine zY.aload_n hO dX11_passAll_13 rfl ?_
  refine zY.aload_n hO dX11_passAll_14 rfl ?_
  refine zY.getI zfl_X11_139 (by decide : 127 < 150) rfl rfl hO dX11_passAll_15 ?_
  refine zY.callV1iD (ct_X11_pass (p := b + (1)) hm hI.m29 hI.p28 (by omega)) (by decide) zcal_X11_pass zml_X11_276 (by decide : 127 < 150) rfl rfl (Nat.le_of_ble_eq_true rfl) rfl ⟨Nat.zero_le _, Nat.zero_le _⟩ hO dX11_passAll_18 ?_
  refine zY.putI zfp_X11_139 (by decide : 127 < 150) rfl rfl hO dX11_passAll_21 ?_
  have hI : zIv m b μ 2 _ := zIv_step hI (by omega) (q := 127) (k := 9) rfl rfl hm
  refine zY.iconst hO dX11_passAll_24 ?_
  refine zY.istore1 (zc1_P _) hO dX11_passAll_25 ?_
  have L26 : ∀ i : Nat, i ≤ 50 → ∀ μ1 : zMem, zIv m b μ (2 + i) μ1 → zY Γ (150, zSX, ad, 0, 0) 26 [some (zP 127), some (zI (i : Int))] [] μ1 := by
    refine zdown (50) (fun i hi_i ih26 => ?_)
    intro μ1 hI
    refine zY.iload_n hO dX11_passAll_26 rfl ?_
    refine zY.bipush hO dX11_passAll_27 (by decide) ?_
    refine zY.icmp_ge (tgt := 54) ⟨by omega, by omega⟩ ⟨by omega, by omega⟩ hO dX11_passAll_29 (by decide) (fun c29 => ?_) (fun c29 => ?_)
    ·
      refine zY.iconst hO dX11_passAll_54 ?_
      refine zY.istore1 (zc1_P _) hO dX11_passAll_55 ?_
      have L56 : ∀ i : Nat, i ≤ 10 → ∀ μ1 : zMem, zIv m b μ (52 + 2 * i) μ1 → zY Γ (150, zSX, ad, 0, 0) 56 [some (zP 127), some (zI (i : Int))] [] μ1 := by
        refine zdown (10) (fun i hi_i ih56 => ?_)
        intro μ1 hI
        refine zY.iload_n hO dX11_passAll_56 rfl ?_
        refine zY.bipush hO dX11_passAll_57 (by decide) ?_
        refine zY.icmp_ge (tgt := 100) ⟨by omega, by omega⟩ ⟨by omega, by omega⟩ hO dX11_passAll_59 (by decide) (fun c59 => ?_) (fun c59 => ?_)
        ·
          refine zY.iconst hO dX11_passAll_100 ?_
          refine zY.istore1 (zc1_P _) hO dX11_passAll_101 ?_
          have L102 : ∀ i : Nat, i ≤ 36 → ∀ μ1 : zMem, zIv m b μ (72 + i) μ1 → zY Γ (150, zSX, ad, 0, 0) 102 [some (zP 127), some (zI (i : Int))] [] μ1 := by
            refine zdown (36) (fun i hi_i ih102 => ?_)
            intro μ1 hI
            refine zY.iload_n hO dX11_passAll_102 rfl ?_
            refine zY.bipush hO dX11_passAll_103 (by decide) ?_
            refine zY.icmp_ge (tgt := 130) ⟨by omega, by omega⟩ ⟨by omega, by omega⟩ hO dX11_passAll_105 (by decide) (fun c105 => ?_) (fun c105 => ?_)
            ·
              refine zY.iconst hO dX11_passAll_130 ?_
              refine zY.istore1 (zc1_P _) hO dX11_passAll_131 ?_
              have L132 : ∀ i : Nat, i ≤ 6 → ∀ μ1 : zMem, zIv m b μ (108 + 4 * i) μ1 → zY Γ (150, zSX, ad, 0, 0) 132 [some (zP 127), some (zI (i : Int))] [] μ1 := by
                refine zdown (6) (fun i hi_i ih132 => ?_)
                intro μ1 hI
                refine zY.iload_n hO dX11_passAll_132 rfl ?_
                refine zY.bipush hO dX11_passAll_133 (by decide) ?_
                refine zY.icmp_ge (tgt := 208) ⟨by omega, by omega⟩ ⟨by omega, by omega⟩ hO dX11_passAll_135 (by decide) (fun c135 => ?_) (fun c135 => ?_)
                ·
                  exact zY.vret rfl ⟨rfl, (by rw [show (132 : Nat) = 108 + 4 * i by omega]; exact hI)⟩ hR hO dX11_passAll_208
                ·
                  refine zY.aload_n hO dX11_passAll_138 rfl ?_
                  refine zY.getR zfl_X11_22 (by decide : 127 < 150) rfl rfl hO dX11_passAll_139 ?_
                  refine zY.iload_n hO dX11_passAll_142 rfl ?_
                  refine zY.aload_n hO dX11_passAll_143 rfl ?_
                  refine zY.aload_n hO dX11_passAll_144 rfl ?_
                  refine zY.getR zfl_X11_22 (by decide : 127 < 150) rfl rfl hO dX11_passAll_145 ?_
                  refine zY.iload_n hO dX11_passAll_148 rfl ?_
                  refine zY.iald (i) rfl (by omega) (by decide) (by decide : 132 < 150) rfl hO dX11_passAll_149 ?_
                  refine zY.callV1iD (ct_X11_pass (p := b + (108 + 4 * i)) hm hI.m29 hI.p28 (by omega)) (by decide) zcal_X11_pass zml_X11_276 (by decide : 127 < 150) rfl rfl (Nat.le_of_ble_eq_true rfl) rfl ⟨Nat.zero_le _, Nat.zero_le _⟩ hO dX11_passAll_150 ?_
                  refine zY.iast (i) rfl (by omega) (by decide) (by decide : 132 < 150) rfl hO dX11_passAll_153 ?_
                  have hI := zIv_step hI (by omega) (zpq_d i (by omega)).1 rfl hm
                  refine zY.aload_n hO dX11_passAll_154 rfl ?_
                  refine zY.getR zfl_X11_25 (by decide : 127 < 150) rfl rfl hO dX11_passAll_155 ?_
                  refine zY.iload_n hO dX11_passAll_158 rfl ?_
                  refine zY.aload_n hO dX11_passAll_159 rfl ?_
                  refine zY.aload_n hO dX11_passAll_160 rfl ?_
                  refine zY.getR zfl_X11_25 (by decide : 127 < 150) rfl rfl hO dX11_passAll_161 ?_
                  refine zY.iload_n hO dX11_passAll_164 rfl ?_
                  refine zY.iald (i) rfl (by omega) (by decide) (by decide : 133 < 150) rfl hO dX11_passAll_165 ?_
                  refine zY.callV1iD (ct_X11_pass (p := b + (108 + 4 * i + 1)) hm hI.m29 hI.p28 (by omega)) (by decide) zcal_X11_pass zml_X11_276 (by decide : 127 < 150) rfl rfl (Nat.le_of_ble_eq_true rfl) rfl ⟨Nat.zero_le _, Nat.zero_le _⟩ hO dX11_passAll_166 ?_
                  refine zY.iast (i) rfl (by omega) (by decide) (by decide : 133 < 150) rfl hO dX11_passAll_169 ?_
                  have hI := zIv_step hI (by omega) (zpq_d i (by omega)).2.1 rfl hm
                  refine zY.aload_n hO dX11_passAll_170 rfl ?_
                  refine zY.getR zfl_X11_28 (by decide : 127 < 150) rfl rfl hO dX11_passAll_171 ?_
                  refine zY.iload_n hO dX11_passAll_174 rfl ?_
                  refine zY.aload_n hO dX11_passAll_175 rfl ?_
                  refine zY.aload_n hO dX11_passAll_176 rfl ?_
                  refine zY.getR zfl_X11_28 (by decide : 127 < 150) rfl rfl hO dX11_passAll_177 ?_
                  refine zY.iload_n hO dX11_passAll_180 rfl ?_
                  refine zY.iald (i) rfl (by omega) (by decide) (by decide : 134 < 150) rfl hO dX11_passAll_181 ?_
                  refine zY.callV1iD (ct_X11_pass (p := b + (108 + 4 * i + 2)) hm hI.m29 hI.p28 (by omega)) (by decide) zcal_X11_pass zml_X11_276 (by decide : 127 < 150) rfl rfl (Nat.le_of_ble_eq_true rfl) rfl ⟨Nat.zero_le _, Nat.zero_le _⟩ hO dX11_passAll_182 ?_
                  refine zY.iast (i) rfl (by omega) (by decide) (by decide : 134 < 150) rfl hO dX11_passAll_185 ?_
                  have hI := zIv_step hI (by omega) (zpq_d i (by omega)).2.2.1 rfl hm
                  refine zY.aload_n hO dX11_passAll_186 rfl ?_
                  refine zY.getR zfl_X11_31 (by decide : 127 < 150) rfl rfl hO dX11_passAll_187 ?_
                  refine zY.iload_n hO dX11_passAll_190 rfl ?_
                  refine zY.aload_n hO dX11_passAll_191 rfl ?_
                  refine zY.aload_n hO dX11_passAll_192 rfl ?_
                  refine zY.getR zfl_X11_31 (by decide : 127 < 150) rfl rfl hO dX11_passAll_193 ?_
                  refine zY.iload_n hO dX11_passAll_196 rfl ?_
                  refine zY.iald (i) rfl (by omega) (by decide) (by decide : 135 < 150) rfl hO dX11_passAll_197 ?_
                  refine zY.callV1iD (ct_X11_pass (p := b + (108 + 4 * i + 3)) hm hI.m29 hI.p28 (by omega)) (by decide) zcal_X11_pass zml_X11_276 (by decide : 127 < 150) rfl rfl (Nat.le_of_ble_eq_true rfl) rfl ⟨Nat.zero_le _, Nat.zero_le _⟩ hO dX11_passAll_198 ?_
                  refine zY.iast (i) rfl (by omega) (by decide) (by decide : 135 < 150) rfl hO dX11_passAll_201 ?_
                  refine zY.iinc1 _ rfl (zc1_P _) hO dX11_passAll_202 ?_
                  refine zY.goto (tgt := 132) hO dX11_passAll_205 (by decide) ?_
                  exact ih132 (by omega) _ (zIv_step (c := 108 + 4 * i + 3) hI (by omega) (zpq_d i (by omega)).2.2.2 rfl hm)
              exact L132 0 (by omega) μ1 (by rw [show 108 + 4 * 0 = 72 + i by omega]; exact hI)
            ·
              refine zY.aload_n hO dX11_passAll_108 rfl ?_
              refine zY.getR zfl_X11_19 (by decide : 127 < 150) rfl rfl hO dX11_passAll_109 ?_
              refine zY.iload_n hO dX11_passAll_112 rfl ?_
              refine zY.aload_n hO dX11_passAll_113 rfl ?_
              refine zY.aload_n hO dX11_passAll_114 rfl ?_
              refine zY.getR zfl_X11_19 (by decide : 127 < 150) rfl rfl hO dX11_passAll_115 ?_
              refine zY.iload_n hO dX11_passAll_118 rfl ?_
              refine zY.iald (i) rfl (by omega) (by decide) (by decide : 131 < 150) rfl hO dX11_passAll_119 ?_
              refine zY.callV1iD (ct_X11_pass (p := b + (72 + i)) hm hI.m29 hI.p28 (by omega)) (by decide) zcal_X11_pass zml_X11_276 (by decide : 127 < 150) rfl rfl (Nat.le_of_ble_eq_true rfl) rfl ⟨Nat.zero_le _, Nat.zero_le _⟩ hO dX11_passAll_120 ?_
              refine zY.iast (i) rfl (by omega) (by decide) (by decide : 131 < 150) rfl hO dX11_passAll_123 ?_
              refine zY.iinc1 _ rfl (zc1_P _) hO dX11_passAll_124 ?_
              refine zY.goto (tgt := 102) hO dX11_passAll_127 (by decide) ?_
              exact ih102 (by omega) _ (zIv_step (c := 72 + i) hI (by omega) (zpq_c i (by omega)) rfl hm)
          exact L102 0 (by omega) μ1 (by rw [show 72 + 0 = 52 + 2 * i by omega]; exact hI)
        ·
          refine zY.aload_n hO dX11_passAll_62 rfl ?_
          refine zY.getR zfl_X11_13 (by decide : 127 < 150) rfl rfl hO dX11_passAll_63 ?_
          refine zY.iload_n hO dX11_passAll_66 rfl ?_
          refine zY.aload_n hO dX11_passAll_67 rfl ?_
          refine zY.aload_n hO dX11_passAll_68 rfl ?_
          refine zY.getR zfl_X11_13 (by decide : 127 < 150) rfl rfl hO dX11_passAll_69 ?_
          refine zY.iload_n hO dX11_passAll_72 rfl ?_
          refine zY.iald (i) rfl (by omega) (by decide) (by decide : 129 < 150) rfl hO dX11_passAll_73 ?_
          refine zY.callV1iD (ct_X11_pass (p := b + (52 + 2 * i)) hm hI.m29 hI.p28 (by omega)) (by decide) zcal_X11_pass zml_X11_276 (by decide : 127 < 150) rfl rfl (Nat.le_of_ble_eq_true rfl) rfl ⟨Nat.zero_le _, Nat.zero_le _⟩ hO dX11_passAll_74 ?_
          refine zY.iast (i) rfl (by omega) (by decide) (by decide : 129 < 150) rfl hO dX11_passAll_77 ?_
          have hI := zIv_step hI (by omega) (zpq_b i (by omega)).1 rfl hm
          refine zY.aload_n hO dX11_passAll_78 rfl ?_
          refine zY.getR zfl_X11_16 (by decide : 127 < 150) rfl rfl hO dX11_passAll_79 ?_
          refine zY.iload_n hO dX11_passAll_82 rfl ?_
          refine zY.aload_n hO dX11_passAll_83 rfl ?_
          refine zY.aload_n hO dX11_passAll_84 rfl ?_
          refine zY.getR zfl_X11_16 (by decide : 127 < 150) rfl rfl hO dX11_passAll_85 ?_
          refine zY.iload_n hO dX11_passAll_88 rfl ?_
          refine zY.iald (i) rfl (by omega) (by decide) (by decide : 130 < 150) rfl hO dX11_passAll_89 ?_
          refine zY.callV1iD (ct_X11_pass (p := b + (52 + 2 * i + 1)) hm hI.m29 hI.p28 (by omega)) (by decide) zcal_X11_pass zml_X11_276 (by decide : 127 < 150) rfl rfl (Nat.le_of_ble_eq_true rfl) rfl ⟨Nat.zero_le _, Nat.zero_le _⟩ hO dX11_passAll_90 ?_
          refine zY.iast (i) rfl (by omega) (by decide) (by decide : 130 < 150) rfl hO dX11_passAll_93 ?_
          refine zY.iinc1 _ rfl (zc1_P _) hO dX11_passAll_94 ?_
          refine zY.goto (tgt := 56) hO dX11_passAll_97 (by decide) ?_
          exact ih56 (by omega) _ (zIv_step (c := 52 + 2 * i + 1) hI (by omega) (zpq_b i (by omega)).2 rfl hm)
      exact L56 0 (by omega) μ1 (by rw [show 52 + 2 * 0 = 2 + i by omega]; exact hI)
    ·
      refine zY.aload_n hO dX11_passAll_32 rfl ?_
      refine zY.getR zfl_X11_7 (by decide : 127 < 150) rfl rfl hO dX11_passAll_33 ?_
      refine zY.iload_n hO dX11_passAll_36 rfl ?_
      refine zY.aload_n hO dX11_passAll_37 rfl ?_
      refine zY.aload_n hO dX11_passAll_38 rfl ?_
      refine zY.getR zfl_X11_7 (by decide : 127 < 150) rfl rfl hO dX11_passAll_39 ?_
      refine zY.iload_n hO dX11_passAll_42 rfl ?_
      refine zY.iald (i) rfl (by omega) (by decide) (by decide : 128 < 150) rfl hO dX11_passAll_43 ?_
      refine zY.callV1iD (ct_X11_pass (p := b + (2 + i)) hm hI.m29 hI.p28 (by omega)) (by decide) zcal_X11_pass zml_X11_276 (by decide : 127 < 150) rfl rfl (Nat.le_of_ble_eq_true rfl) rfl ⟨Nat.zero_le _, Nat.zero_le _⟩ hO dX11_passAll_44 ?_
      refine zY.iast (i) rfl (by omega) (by decide) (by decide : 128 < 150) rfl hO dX11_passAll_47 ?_
      refine zY.iinc1 _ rfl (zc1_P _) hO dX11_passAll_48 ?_
      refine zY.goto (tgt := 26) hO dX11_passAll_51 (by decide) ?_
      exact ih26 (by omega) _ (zIv_step (c := 2 + i) hI (by omega) (zpq_a i (by omega)) rfl hm)
  exact L26 0 (by omega) _ hI

theorem zMS_sh {D : zBk} {μ μ' : zMem} (h : zMS D μ) (h1 : ∀ q, 128 ≤ q → q ≤ 135 → μ' q = μ q) (h2 : μ' 127 8 = μ 127 8) (h3 : μ' 127 9 = μ 127 9) : zMS D μ' := h.keep h1 (fun j hj => by rcases hj with rfl | rfl; (· exact h2); (· exact h3))
theorem zMd_im {D : zBk} {K0 K1 : Option zBk} {μ μa μ' : zMem} {nn : Nat} (hn : nn < 2) (hM : zMd D K0 K1 μ) (ha : ∀ q, q ≠ 127 → μa q = μ q) (ha2 : ∀ j, j < 28 → μa 127 j = μ 127 j) (h : zIv 1 (160 * nn) μa 132 μ') : zMd D (if nn = 0 then some D else K0) (if nn = 1 then some D else K1) (zwr μ' 149 nn 1) ∧ ∀ q, q < 127 → zwr μ' 149 nn 1 q = μ q := by
  obtain ⟨hW, hS, hP, hI0, hI1⟩ := hM
  obtain ⟨g1, g2, g3, g4⟩ := h.2.2.2.2.1 rfl
  have hS' : zMS D μ' := zMS_sh hS (fun q a b => (g1 q a b).trans (ha q (by omega))) (g2.trans (ha2 8 (by decide))) (g3.trans (ha2 9 (by decide)))
  have hK := zIv_kp h hW hS'
  have hr : ∀ q, q ≠ 127 → q ≠ 148 → q ≠ 149 → (q < 128 ∨ 135 < q) → zwr μ' 149 nn 1 q = μ q := fun q a b c e => by rw [zwr_ne c, h.1 q a b e]; exact ha q a
  have h149 : ∀ j, j ≠ nn → zwr μ' 149 nn 1 149 j = μ 149 j := fun j hj => by rw [zwr_nk (by omega), h.1 149 (by decide) (by decide) (by decide), ha 149 (by decide)]
  have h148 : zwr μ' 149 nn 1 148 = μ' 148 := zwr_ne (by decide)
  refine ⟨⟨hW, zMS_sh hS' (fun q a b => zwr_ne (by omega)) (by rw [zwr_ne (by decide)]) (by rw [zwr_ne (by decide)]), ⟨fun j hj => ?_, ?_⟩, ?_, ?_⟩, fun q hq => hr q (by omega) (by omega) (by omega) (by omega)⟩
  · rw [hr 136 (by decide) (by decide) (by decide) (by decide)]; exact hP.1 j hj
  · rw [zwr_ne (by decide), h.2.1 11 (by decide) (by decide) (by decide), ha2 11 (by decide)]; exact hP.2
  · by_cases e : nn = 0
    · subst e
      rw [if_pos rfl]
      exact ⟨zwr_at, by rw [h148]; exact hK, hW⟩
    · rw [if_neg e]
      cases K0 with
      | none => exact (h149 0 (by omega)).trans hI0
      | some E => exact ⟨(h149 0 (by omega)).trans hI0.1, zKp_congr hI0.2.2 hI0.2.1 (fun j a b => by rw [h148, g4 j (by omega), ha 148 (by decide)]), hI0.2.2⟩
  · by_cases e : nn = 1
    · subst e
      rw [if_pos rfl]
      exact ⟨zwr_at, by rw [h148]; exact hK, hW⟩
    · rw [if_neg e]
      cases K1 with
      | none => exact (h149 1 (by omega)).trans hI1
      | some E => exact ⟨(h149 1 (by omega)).trans hI1.1, zKp_congr hI1.2.2 hI1.2.1 (fun j a b => by rw [h148, g4 j (by omega), ha 148 (by decide)]), hI1.2.2⟩
theorem zMd_rs {D K : zBk} {K0 K1 : Option zBk} {μ μa μ' : zMem} {nn : Nat} (hM : zMd D K0 K1 μ) (hW2 : zWF K) (hK : zKp (160 * nn) K (μ 148)) (ha : ∀ q, q ≠ 127 → μa q = μ q) (ha2 : ∀ j, j < 28 → μa 127 j = μ 127 j) (h : zIv 0 (160 * nn) μa 132 μ') : zMd (zRes D K) K0 K1 μ' ∧ ∀ q, q < 127 → μ' q = μ q := by
  obtain ⟨hW, hS, hP, hI0, hI1⟩ := hM
  have h148 : μ' 148 = μ 148 := (h.2.2.2.2.2.1 rfl).trans (ha 148 (by decide))
  have hS' : zMS K μ' := zIv_ms h hW2 (by rw [h148]; exact hK)
  have hr : ∀ q, q ≠ 127 → q ≠ 148 → (q < 128 ∨ 135 < q) → μ' q = μ q := fun q a b e => by rw [h.1 q a b e]; exact ha q a
  refine ⟨⟨zWF_res hW hW2, ?_, ⟨fun j hj => ?_, ?_⟩, hI0.keep h148 (hr 149 (by decide) (by decide) (by decide)), hI1.keep h148 (hr 149 (by decide) (by decide) (by decide))⟩, fun q hq => hr q (by omega) (by omega) (by omega)⟩
  · have e : ∀ t, t ≤ 8 → zRes D K t = K t := fun t ht => by funext k; unfold zRes; rw [if_pos ht]
    obtain ⟨s1, s2, s3, s4, s5, s6⟩ := hS'
    refine ⟨fun t a b s hs => ?_, fun t a b w hw => ?_, fun w hw i hi => ?_, fun s hs i hi => ?_, ?_, ?_⟩
    · rw [e t (by omega)]; exact s1 t a b s hs
    · rw [e t (by omega)]; exact s2 t a b w hw
    · rw [e 1 (by omega)] at hi; rw [e 0 (by omega)]; exact s3 w hw i hi
    · rw [e 4 (by omega)] at hi; rw [e 3 (by omega)]; exact s4 s hs i hi
    · rw [e 8 (by omega)]; exact s5
    · rw [e 8 (by omega)]; exact s6
  · rw [hr 136 (by decide) (by decide) (by decide)]
    unfold zRes
    rw [if_neg (by omega)]
    exact hP.1 j hj
  · rw [h.2.1 11 (by decide) (by decide) (by decide), ha2 11 (by decide)]
    unfold zRes
    rw [if_neg (by omega)]
    exact hP.2

set_option maxRecDepth 100000 in
set_option maxHeartbeats 4000000 in
theorem ct_X11_image {μ : zMem} {D : zBk} {K0 K1 : Option zBk} (hM : zMd D K0 K1 μ) {nn : Nat} (hn : nn < 2) : Ci kX11_image 4 150 zSX [zP 127, zI (nn : Int)] μ (fun a μ' => a = 1 ∧ zMd D (if nn = 0 then some D else K0) (if nn = 1 then some D else K1) μ' ∧ ∀ q, q < 127 → μ' q = μ q) := by
  refine Ct.of [some (zP 127), some (zI (nn : Int))] rfl (Nat.le_of_ble_eq_true rfl) (by decide +kernel) (fun Γ ad hO hR => ?_)
  refine zY.iload_n hO dX11_image_0 rfl ?_
  refine zY.i2l ⟨by omega, by omega⟩ hO dX11_image_1 ?_
  refine zY.lconst0 hO dX11_image_2 ?_
  refine zY.lconst1 hO dX11_image_3 ?_
  refine zY.callS3iD (ct_X11_in (a := (nn : Int)) (b := 0) (c := 1) ⟨by omega, by omega⟩ ⟨by omega, by omega⟩ ⟨by omega, by omega⟩) (by decide) zcal_X11_in zml_X11_83 (Nat.le_of_ble_eq_true rfl) rfl ⟨Nat.zero_le _, Nat.zero_le _⟩ hO dX11_image_4 ?_
  refine zY.if_ne (tgt := 13) zr_b hO dX11_image_7 (by decide) (fun c7 => ?_) (fun c7 => ?_)
  ·
    replace c7 := zb1.mp c7
    refine zY.aload_n hO dX11_image_13 rfl ?_
    refine zY.sipush hO dX11_image_14 (by decide) ?_
    refine zY.iload_n hO dX11_image_17 rfl ?_
    refine zY.imul hO dX11_image_18 ?_
    refine zY.as (b := ((160 * nn : Nat) : Int)) (by omega) ?_
    refine zY.putI zfp_X11_273 (by decide : 127 < 150) rfl rfl hO dX11_image_19 ?_
    refine zY.aload_n hO dX11_image_22 rfl ?_
    refine zY.iconst hO dX11_image_23 ?_
    refine zY.putZ (Or.inr rfl) zfp_X11_269 (by decide : 127 < 150) rfl rfl hO dX11_image_24 ?_
    refine zY.aload_n hO dX11_image_27 rfl ?_
    obtain ⟨μa, hma⟩ : ∃ μa : zMem, μa = zwr (zwr μ 127 28 ((160 * nn : Nat) : Int)) 127 29 1 := ⟨_, rfl⟩
    rw [← hma]
    have ha : ∀ q, q ≠ 127 → μa q = μ q := fun q hq => by rw [hma, zwr_ne hq, zwr_ne hq]
    have ha2 : ∀ j, j < 28 → μa 127 j = μ 127 j := fun j hj => by rw [hma, zwr_nk (by omega), zwr_nk (by omega)]
    refine zY.callV0v (ct_X11_passAll (m := 1) (b := 160 * nn) (Or.inr rfl) (by rw [hma, zwr_at]) (by rw [hma, zwr_nk (by omega), zwr_at]) (by omega)) (by decide) zcal_X11_passAll zml_X11_279 (by decide : 127 < 150) rfl rfl (Nat.le_of_ble_eq_true rfl) rfl ⟨Nat.zero_le _, Nat.zero_le _⟩ hO dX11_image_28 (fun μ3 hq3 => ?_)
    refine zY.aload_n hO dX11_image_31 rfl ?_
    refine zY.getR zfl_X11_73 (by decide : 127 < 150) rfl rfl hO dX11_image_32 ?_
    refine zY.iload_n hO dX11_image_35 rfl ?_
    refine zY.iconst hO dX11_image_36 ?_
    refine zY.zast (nn) (Or.inr rfl) rfl (by omega) (by decide) (by decide : 149 < 150) rfl hO dX11_image_37 ?_
    refine zY.iconst hO dX11_image_38 ?_
    exact zY.iret rfl ⟨_, rfl, ⟨rfl, zMd_im hn hM ha ha2 hq3⟩⟩ hR hO dX11_image_39
  ·
    exfalso
    replace c7 := zb0.mp c7
    omega

set_option maxRecDepth 100000 in
set_option maxHeartbeats 4000000 in
theorem ct_X11_imageN {μ : zMem} {D : zBk} {K0 K1 : Option zBk} (hM : zMd D K0 K1 μ) {v : Int} (hv : zr v) (hn : ¬ (0 ≤ v ∧ v ≤ 1)) : Ci kX11_image 4 150 zSX [zP 127, zI v] μ (fun a μ' => a = -2 ∧ μ' = μ) := by
  refine Ct.of [some (zP 127), some (zI v)] rfl (Nat.le_of_ble_eq_true rfl) (by decide +kernel) (fun Γ ad hO hR => ?_)
  refine zY.iload_n hO dX11_image_0 rfl ?_
  refine zY.i2l hv hO dX11_image_1 ?_
  refine zY.lconst0 hO dX11_image_2 ?_
  refine zY.lconst1 hO dX11_image_3 ?_
  refine zY.callS3iD (ct_X11_in (a := v) (b := 0) (c := 1) ⟨by omega, by omega⟩ ⟨by omega, by omega⟩ ⟨by omega, by omega⟩) (by decide) zcal_X11_in zml_X11_83 (Nat.le_of_ble_eq_true rfl) rfl ⟨Nat.zero_le _, Nat.zero_le _⟩ hO dX11_image_4 ?_
  refine zY.if_ne (tgt := 13) zr_b hO dX11_image_7 (by decide) (fun c7 => ?_) (fun c7 => ?_)
  ·
    exfalso
    exact hn (zb1.mp c7)
  ·
    refine zY.bipush hO dX11_image_10 (by decide) ?_
    exact zY.iret rfl ⟨_, rfl, ⟨rfl, rfl⟩⟩ hR hO dX11_image_12

set_option maxRecDepth 100000 in
set_option maxHeartbeats 4000000 in
theorem ct_X11_restore {μ : zMem} {D : zBk} {K0 K1 : Option zBk} (hM : zMd D K0 K1 μ) {nn : Nat} (hn : nn < 2) : Ci kX11_restore 4 150 zSX [zP 127, zI (nn : Int)] μ (fun a μ' => ((if nn = 0 then K0 else K1) = none ∧ a = -3 ∧ μ' = μ) ∨ (∃ K, (if nn = 0 then K0 else K1) = some K ∧ a = 1 ∧ zMd (zRes D K) K0 K1 μ' ∧ ∀ q, q < 127 → μ' q = μ q)) := by
  refine Ct.of [some (zP 127), some (zI (nn : Int))] rfl (Nat.le_of_ble_eq_true rfl) (by decide +kernel) (fun Γ ad hO hR => ?_)
  have hI : zMI nn (if nn = 0 then K0 else K1) μ := by
    by_cases e : nn = 0
    · subst e; exact hM.2.2.2.1
    · have e1 : nn = 1 := by omega
      subst e1; exact hM.2.2.2.2
  obtain ⟨KK, hKK⟩ : ∃ KK, KK = (if nn = 0 then K0 else K1) := ⟨_, rfl⟩
  rw [← hKK] at hI
  refine zY.iload_n hO dX11_restore_0 rfl ?_
  refine zY.i2l ⟨by omega, by omega⟩ hO dX11_restore_1 ?_
  refine zY.lconst0 hO dX11_restore_2 ?_
  refine zY.lconst1 hO dX11_restore_3 ?_
  refine zY.callS3iD (ct_X11_in (a := (nn : Int)) (b := 0) (c := 1) ⟨by omega, by omega⟩ ⟨by omega, by omega⟩ ⟨by omega, by omega⟩) (by decide) zcal_X11_in zml_X11_83 (Nat.le_of_ble_eq_true rfl) rfl ⟨Nat.zero_le _, Nat.zero_le _⟩ hO dX11_restore_4 ?_
  refine zY.if_ne (tgt := 13) zr_b hO dX11_restore_7 (by decide) (fun c7 => ?_) (fun c7 => ?_)
  ·
    replace c7 := zb1.mp c7
    refine zY.aload_n hO dX11_restore_13 rfl ?_
    refine zY.getR zfl_X11_73 (by decide : 127 < 150) rfl rfl hO dX11_restore_14 ?_
    refine zY.iload_n hO dX11_restore_17 rfl ?_
    refine zY.zald (nn) rfl (by omega) (by decide) (by decide : 149 < 150) rfl hO dX11_restore_18 ?_
    refine zY.if_ne (tgt := 25) (by cases KK with
      | none => (have h0 : μ 149 nn = 0 := hI); rw [h0]; exact ⟨by omega, by omega⟩
      | some E => rw [hI.1]; exact ⟨by omega, by omega⟩) hO dX11_restore_19 (by decide) (fun c19 => ?_) (fun c19 => ?_)
    ·
      obtain ⟨K, hKs⟩ : ∃ K, KK = some K := by
        cases KK with
        | none => exact absurd hI c19
        | some E => exact ⟨E, rfl⟩
      rw [hKs] at hI
      refine zY.aload_n hO dX11_restore_25 rfl ?_
      refine zY.sipush hO dX11_restore_26 (by decide) ?_
      refine zY.iload_n hO dX11_restore_29 rfl ?_
      refine zY.imul hO dX11_restore_30 ?_
      refine zY.as (b := ((160 * nn : Nat) : Int)) (by omega) ?_
      refine zY.putI zfp_X11_273 (by decide : 127 < 150) rfl rfl hO dX11_restore_31 ?_
      refine zY.aload_n hO dX11_restore_34 rfl ?_
      refine zY.iconst hO dX11_restore_35 ?_
      refine zY.putZ (Or.inl rfl) zfp_X11_269 (by decide : 127 < 150) rfl rfl hO dX11_restore_36 ?_
      refine zY.aload_n hO dX11_restore_39 rfl ?_
      obtain ⟨μa, hma⟩ : ∃ μa : zMem, μa = zwr (zwr μ 127 28 ((160 * nn : Nat) : Int)) 127 29 0 := ⟨_, rfl⟩
      rw [← hma]
      have ha : ∀ q, q ≠ 127 → μa q = μ q := fun q hq => by rw [hma, zwr_ne hq, zwr_ne hq]
      have ha2 : ∀ j, j < 28 → μa 127 j = μ 127 j := fun j hj => by rw [hma, zwr_nk (by omega), zwr_nk (by omega)]
      refine zY.callV0v (ct_X11_passAll (m := 0) (b := 160 * nn) (Or.inl rfl) (by rw [hma, zwr_at]) (by rw [hma, zwr_nk (by omega), zwr_at]) (by omega)) (by decide) zcal_X11_passAll zml_X11_279 (by decide : 127 < 150) rfl rfl (Nat.le_of_ble_eq_true rfl) rfl ⟨Nat.zero_le _, Nat.zero_le _⟩ hO dX11_restore_40 (fun μ3 hq3 => ?_)
      refine zY.iconst hO dX11_restore_43 ?_
      exact zY.iret rfl ⟨_, rfl, (Or.inr ⟨K, hKK ▸ hKs, rfl, zMd_rs hM hI.2.2 hI.2.1 ha ha2 hq3⟩)⟩ hR hO dX11_restore_44
    ·
      have hKs : KK = none := by
        cases KK with
        | none => rfl
        | some E => (have h0 := hI.1); omega
      refine zY.bipush hO dX11_restore_22 (by decide) ?_
      exact zY.iret rfl ⟨_, rfl, (Or.inl ⟨hKK ▸ hKs, rfl, rfl⟩)⟩ hR hO dX11_restore_24
  ·
    exfalso
    replace c7 := zb0.mp c7
    omega

set_option maxRecDepth 100000 in
set_option maxHeartbeats 4000000 in
theorem ct_X11_restoreN {μ : zMem} {D : zBk} {K0 K1 : Option zBk} (hM : zMd D K0 K1 μ) {v : Int} (hv : zr v) (hn : ¬ (0 ≤ v ∧ v ≤ 1)) : Ci kX11_restore 4 150 zSX [zP 127, zI v] μ (fun a μ' => a = -2 ∧ μ' = μ) := by
  refine Ct.of [some (zP 127), some (zI v)] rfl (Nat.le_of_ble_eq_true rfl) (by decide +kernel) (fun Γ ad hO hR => ?_)
  refine zY.iload_n hO dX11_restore_0 rfl ?_
  refine zY.i2l hv hO dX11_restore_1 ?_
  refine zY.lconst0 hO dX11_restore_2 ?_
  refine zY.lconst1 hO dX11_restore_3 ?_
  refine zY.callS3iD (ct_X11_in (a := v) (b := 0) (c := 1) ⟨by omega, by omega⟩ ⟨by omega, by omega⟩ ⟨by omega, by omega⟩) (by decide) zcal_X11_in zml_X11_83 (Nat.le_of_ble_eq_true rfl) rfl ⟨Nat.zero_le _, Nat.zero_le _⟩ hO dX11_restore_4 ?_
  refine zY.if_ne (tgt := 13) zr_b hO dX11_restore_7 (by decide) (fun c7 => ?_) (fun c7 => ?_)
  ·
    exfalso
    exact hn (zb1.mp c7)
  ·
    refine zY.bipush hO dX11_restore_10 (by decide) ?_
    exact zY.iret rfl ⟨_, rfl, ⟨rfl, rfl⟩⟩ hR hO dX11_restore_12
