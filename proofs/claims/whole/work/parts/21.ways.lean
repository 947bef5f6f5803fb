/-! Ways -/
theorem zBal.row {b : Nat} {D : zBk} {μ μ' : zMem} (h : zBal D b μ) (he : ∀ q, b ≤ q → q ≤ b + 4 → μ' q = μ q) : zBal D b μ' := by
  intro s hs
  rw [he (b + 2) (by omega) (by omega), he (b + 4) (by omega) (by omega)]
  exact h s hs
def zWy (D : zBk) (want : Nat → Int) (μ : zMem) : Prop := zBal D 63 μ ∧ (∀ x, x < 6 → μ 70 x = D 5 x) ∧ μ 62 4 = (zthD D : Int) ∧ ∀ s, s < 6 → μ 74 s = want s
theorem zWy.row {D : zBk} {want : Nat → Int} {μ μ' : zMem} (h : zWy D want μ) (h1 : ∀ q, 62 ≤ q → q ≤ 70 → μ' q = μ q) (h2 : μ' 74 = μ 74) : zWy D want μ' :=
  ⟨h.1.row (fun q a b => h1 q (by omega) (by omega)), by rw [h1 70 (by decide) (by decide)]; exact h.2.1, by rw [h1 62 (by decide) (by decide)]; exact h.2.2.1, by rw [h2]; exact h.2.2.2⟩
theorem zWy.r72 {D : zBk} {want : Nat → Int} {μ : zMem} {f : Nat → Int} (h : zWy D want μ) : zWy D want (zrow μ 72 f) := h.row (fun q _ _ => zrow_ne (by omega)) (zrow_ne (by decide))
theorem zWy.r76 {D : zBk} {want : Nat → Int} {μ : zMem} {f : Nat → Int} (h : zWy D want μ) : zWy D want (zrow μ 76 f) := h.row (fun q _ _ => zrow_ne (by omega)) (zrow_ne (by decide))
theorem zlk_b {A F : Nat → Int} (hr : ∀ x, x < 6 → -1000 ≤ A x ∧ A x ≤ 1000 ∧ -1000 ≤ F x ∧ F x ≤ 1000) : 0 ≤ zlk A F ∧ zlk A F ≤ 20000 := by
  have h : ∀ k, k ≤ 6 → 0 ≤ zsum (fun x => max 0 (A x - F x)) k ∧ zsum (fun x => max 0 (A x - F x)) k ≤ 2000 * k := by
    intro k
    induction k with
    | zero => intro _; simp [zsum]
    | succ k ih => intro hk; have := ih (by omega); have := hr k (by omega); simp only [zsum]; omega
  have := h 6 (Nat.le_refl 6)
  unfold zlk
  omega
theorem zlk_congr {A A' F F' : Nat → Int} (hA : ∀ x, x < 6 → A x = A' x) (hF : ∀ x, x < 6 → F x = F' x) : zlk A F = zlk A' F' := zsum_congr 6 (fun x hx => by simp only [hA x hx, hF x hx])
theorem ct_breakOne {μ : zMem} {c : Nat} (hC : zStk c) {v : Int} (hv : v = -6 ∨ (0 ≤ v ∧ v ≤ 5)) (hr : ∀ x, x < 6 → zr (μ (c + 4) x)) : Cv kX7_breakOne 4 150 zSX [zP c, zI v] μ (fun μ' => μ' = zrow μ (c + 4) (zls (μ (c + 4)) v)) := by
  rcases hv with rfl | hv
  · exact (ct_breakOneN hC).imp (fun μ' hp => by rw [hp, zls_n (by omega), zrow_self (fun _ => rfl)])
  · obtain ⟨xq, rfl⟩ : ∃ xq : Nat, v = (xq : Int) := ⟨v.toNat, by omega⟩
    exact ct_X7_breakOne hC (by omega) (hr xq (by omega))

set_option maxRecDepth 100000 in
set_option maxHeartbeats 4000000 in
theorem ct_bitCount {nn : Nat} {sh : Nat → zShc} {μ : zMem} {m : Nat} (hm : m < 64) : Ci kJ6_bitCount_0f7a4 1 nn sh [zI (m : Int)] μ (fun a μ' => a = zpc m ∧ μ' = μ) := by
  refine Ct.of [some (zI (m : Int))] rfl (Nat.le_of_ble_eq_true rfl) (by decide +kernel) (fun Γ ad hO hR => ?_)
  refine zY.iload_n hO dJ6_bitCount_0f7a4_0 rfl ?_
  refine zY.iload_n hO dJ6_bitCount_0f7a4_1 rfl ?_
  refine zY.iconst hO dJ6_bitCount_0f7a4_2 ?_
  refine zY.iushr (c := ((m / 2 : Nat) : Int)) (zbc_a m hm) hO dJ6_bitCount_0f7a4_3 ?_
  refine zY.ldcw hO zck_J6_265 dJ6_bitCount_0f7a4_4 ?_
  refine zY.iand (c := ((zc1_ m : Nat) : Int)) (zbc_b m hm) hO dJ6_bitCount_0f7a4_7 ?_
  refine zY.isub hO dJ6_bitCount_0f7a4_8 ?_
  refine zY.as (zbc_c m hm) ?_
  refine zY.istore0 hO dJ6_bitCount_0f7a4_9 ?_
  refine zY.iload_n hO dJ6_bitCount_0f7a4_10 rfl ?_
  refine zY.ldcw hO zck_J6_266 dJ6_bitCount_0f7a4_11 ?_
  refine zY.iand (c := ((zc2_ m &&& 858993459 : Nat) : Int)) (zbc_d m hm) hO dJ6_bitCount_0f7a4_14 ?_
  refine zY.iload_n hO dJ6_bitCount_0f7a4_15 rfl ?_
  refine zY.iconst hO dJ6_bitCount_0f7a4_16 ?_
  refine zY.iushr (c := ((zc2_ m / 4 : Nat) : Int)) (zbc_e m hm) hO dJ6_bitCount_0f7a4_17 ?_
  refine zY.ldcw hO zck_J6_266 dJ6_bitCount_0f7a4_18 ?_
  refine zY.iand (c := ((zc2_ m / 4 &&& 858993459 : Nat) : Int)) (zbc_f m hm) hO dJ6_bitCount_0f7a4_21 ?_
  refine zY.iadd hO dJ6_bitCount_0f7a4_22 ?_
  refine zY.as (b := ((zc3_ m : Nat) : Int)) (Int.natCast_add _ _).symm ?_
  refine zY.istore0 hO dJ6_bitCount_0f7a4_23 ?_
  refine zY.iload_n hO dJ6_bitCount_0f7a4_24 rfl ?_
  refine zY.iload_n hO dJ6_bitCount_0f7a4_25 rfl ?_
  refine zY.iconst hO dJ6_bitCount_0f7a4_26 ?_
  refine zY.iushr (c := ((zc3_ m / 16 : Nat) : Int)) (zbc_g m hm) hO dJ6_bitCount_0f7a4_27 ?_
  refine zY.iadd hO dJ6_bitCount_0f7a4_28 ?_
  refine zY.as (b := ((zc3_ m + zc3_ m / 16 : Nat) : Int)) (Int.natCast_add _ _).symm ?_
  refine zY.ldcw hO zck_J6_267 dJ6_bitCount_0f7a4_29 ?_
  refine zY.iand (c := ((zc4_ m : Nat) : Int)) (zbc_h m hm) hO dJ6_bitCount_0f7a4_32 ?_
  refine zY.istore0 hO dJ6_bitCount_0f7a4_33 ?_
  refine zY.iload_n hO dJ6_bitCount_0f7a4_34 rfl ?_
  refine zY.iload_n hO dJ6_bitCount_0f7a4_35 rfl ?_
  refine zY.bipush hO dJ6_bitCount_0f7a4_36 (by decide) ?_
  refine zY.iushr (c := ((zc4_ m / 256 : Nat) : Int)) (zbc_i m hm) hO dJ6_bitCount_0f7a4_38 ?_
  refine zY.iadd hO dJ6_bitCount_0f7a4_39 ?_
  refine zY.as (b := ((zc5_ m : Nat) : Int)) (Int.natCast_add _ _).symm ?_
  refine zY.istore0 hO dJ6_bitCount_0f7a4_40 ?_
  refine zY.iload_n hO dJ6_bitCount_0f7a4_41 rfl ?_
  refine zY.iload_n hO dJ6_bitCount_0f7a4_42 rfl ?_
  refine zY.bipush hO dJ6_bitCount_0f7a4_43 (by decide) ?_
  refine zY.iushr (c := ((zc5_ m / 65536 : Nat) : Int)) (zbc_j m hm) hO dJ6_bitCount_0f7a4_45 ?_
  refine zY.iadd hO dJ6_bitCount_0f7a4_46 ?_
  refine zY.as (b := ((zc6_ m : Nat) : Int)) (Int.natCast_add _ _).symm ?_
  refine zY.istore0 hO dJ6_bitCount_0f7a4_47 ?_
  refine zY.iload_n hO dJ6_bitCount_0f7a4_48 rfl ?_
  refine zY.bipush hO dJ6_bitCount_0f7a4_49 (by decide) ?_
  refine zY.iand (c := (zpc m)) (zbc_k m hm) hO dJ6_bitCount_0f7a4_51 ?_
  exact zY.iret rfl ⟨_, rfl, ⟨rfl, rfl⟩⟩ hR hO dJ6_bitCount_0f7a4_52

set_option maxRecDepth 100000 in
set_option maxHeartbeats 4000000 in
theorem ct_X9_load {μ : zMem} {D : zBk} {K0 K1 : Option zBk} (hX : zRX D K0 K1 μ)  : Cv kX9_load 8 150 zSX [zP 62, zP 1] μ (fun μ' => zBal D 63 μ' ∧ (∀ x, x < 6 → μ' 70 x = D 5 x) ∧ μ' 62 4 = (zthD D : Int) ∧ zSame 62 76 μ μ') := by
  refine Ct.of [some (zP 62), some (zP 1)] rfl (Nat.le_of_ble_eq_true rfl) (by decide +kernel) (fun Γ ad hO hR => ?_)
  refine zY.aload_n hO dX9_load_0 rfl ?_
  refine zY.getR zfl_X9_14 (by decide : 62 < 150) rfl rfl hO dX9_load_1 ?_
  refine zY.aload_n hO dX9_load_4 rfl ?_
  refine zY.callV1v (ct_X0_writeAll zbl_63 hX.1 hX.2.1) (by decide) zcal_X0_writeAll zml_X9_41 (by decide : 63 < 150) rfl rfl (Nat.le_of_ble_eq_true rfl) rfl ⟨Nat.zero_le _, Nat.zero_le _⟩ hO dX9_load_5 (fun μ1 hq1 => ?_)
  obtain ⟨fq, gq, hq1, hq2⟩ := hq1
  refine zY.aload_n hO dX9_load_8 rfl ?_
  refine zY.getR zfl_X9_23 (by decide : 62 < 150) rfl rfl hO dX9_load_9 ?_
  refine zY.aload_n hO dX9_load_12 rfl ?_
  refine zY.callV1v (ct_X7_load zst_68) (by decide) zcal_X7_load zml_X9_45 (by decide : 68 < 150) rfl rfl (Nat.le_of_ble_eq_true rfl) rfl ⟨Nat.zero_le _, Nat.zero_le _⟩ hO dX9_load_13 (fun μ2 hq3 => ?_)
  obtain ⟨f2q, g2q, hq3, hq4⟩ := hq3
  have hsm : zSame 62 76 μ μ2 := by rw [hq3, hq1]; exact (((zSame.rfl'.row (by decide) (by decide)).row (by decide) (by decide)).row (by decide) (by decide)).row (by decide) (by decide)
  have hs2 : zShp 1 D μ2 := hsm.shp hX.2.1 (by decide)
  refine zY.aload_n hO dX9_load_16 rfl ?_
  refine zY.aload_n hO dX9_load_17 rfl ?_
  refine zY.callV0iD (ct_X6_there (fun s hs => by have h1 := (hs2.2.1 s hs).1; have h2 := hX.1.2.1 s hs; exact ⟨by rw [show (μ2 15 s) = D 4 s from h1]; omega, by rw [show (μ2 15 s) = D 4 s from h1]; omega⟩)) (by decide) zcal_X6_there zml_X9_48 (by decide : 1 < 150) rfl rfl (Nat.le_of_ble_eq_true rfl) rfl ⟨Nat.zero_le _, Nat.zero_le _⟩ hO dX9_load_18 ?_
  refine zY.as (b := (zthD D : Int)) (by rw [zth_congr (fun s hs => (hs2.2.1 s hs).1)]; rfl) ?_
  refine zY.putI zfp_X9_37 (by decide : 62 < 150) rfl rfl hO dX9_load_21 ?_
  exact zY.vret rfl ⟨rfl, ⟨(hq2.row (fun q h1 h2 => by rw [zwr_ne (by omega), hq3, zrow_ne (by omega), zrow_ne (by omega)])), fun x hx => by
    rw [zwr_ne (by decide), hq3, zrow_ne (by decide), zrow_eq, (hq4 x hx).1, hq1, zrow_ne (by decide), zrow_ne (by decide)]
    exact (hX.2.1.2.1 x hx).2.1, by simp [zwr], hsm.wr (by decide) (by decide)⟩⟩ hR hO dX9_load_24

set_option maxRecDepth 100000 in
set_option maxHeartbeats 4000000 in
theorem ct_X9_wantNoneUpsideDown {μ : zMem}  : Cv kX9_wantNoneUpsideDown 5 150 zSX [zP 62] μ (fun μ' => ∃ f, μ' = zrow μ 74 f ∧ ∀ s, s < 6 → f s = zno s) := by
  refine Ct.of [some (zP 62)] rfl (Nat.le_of_ble_eq_true rfl) (by decide +kernel) (fun Γ ad hO hR => ?_)
  refine zY.aload_n hO dX9_wantNoneUpsideDown_0 rfl ?_
  refine zY.getR zfl_X9_30 (by decide : 62 < 150) rfl rfl hO dX9_wantNoneUpsideDown_1 ?_
  refine zY.iconst hO dX9_wantNoneUpsideDown_4 ?_
  refine zY.callV1vD (ct_X5_fill zrw_73) (by decide) zcal_X5_fill zml_X9_53 (by decide : 73 < 150) rfl rfl (Nat.le_of_ble_eq_true rfl) rfl ⟨Nat.zero_le _, Nat.zero_le _⟩ hO dX9_wantNoneUpsideDown_5 ?_
  exact zY.vret rfl ⟨rfl, ⟨_, rfl, fun s hs => if_pos hs⟩⟩ hR hO dX9_wantNoneUpsideDown_8

set_option maxRecDepth 100000 in
set_option maxHeartbeats 4000000 in
theorem ct_X9_wantAsSeen {μ : zMem} {D : zBk} (hS : zShp 1 D μ) : Cv kX9_wantAsSeen 5 150 zSX [zP 62, zP 1] μ (fun μ' => ∃ f, μ' = zrow μ 74 f ∧ ∀ s, s < 6 → f s = D 7 s) := by
  refine Ct.of [some (zP 62), some (zP 1)] rfl (Nat.le_of_ble_eq_true rfl) (by decide +kernel) (fun Γ ad hO hR => ?_)
  refine zY.aload_n hO dX9_wantAsSeen_0 rfl ?_
  refine zY.getR zfl_X9_30 (by decide : 62 < 150) rfl rfl hO dX9_wantAsSeen_1 ?_
  refine zY.aload_n hO dX9_wantAsSeen_4 rfl ?_
  refine zY.getR zfl_X9_56 (by decide : 1 < 150) rfl rfl hO dX9_wantAsSeen_5 ?_
  refine zY.callV1vD (ct_X5_copy zrw_73 zrw_16 (by decide)) (by decide) zcal_X5_copy zml_X9_59 (by decide : 73 < 150) rfl rfl (Nat.le_of_ble_eq_true rfl) rfl ⟨Nat.zero_le _, Nat.zero_le _⟩ hO dX9_wantAsSeen_8 ?_
  exact zY.vret rfl ⟨rfl, ⟨_, rfl, fun s hs => by rw [if_pos hs, zrat_in hs]; exact (hS.2.1 s hs).2.2.2.1⟩⟩ hR hO dX9_wantAsSeen_11

set_option maxRecDepth 100000 in
set_option maxHeartbeats 4000000 in
theorem ct_X9_print {μ : zMem} {D : zBk} {want : Nat → Int} (hW : zWF D) (hy : zWy D want μ) {set : Nat} (hset : set < 64) : Cv kX9_print 5 150 zSX [zP 62, zI (set : Int)] μ (fun μ' => ∃ h, μ' = zrow μ 72 h ∧ ∀ x, x < 6 → h x = zaf D set 6 x) := by
  refine Ct.of [some (zP 62), some (zI (set : Int)), none] rfl (Nat.le_of_ble_eq_true rfl) (by decide +kernel) (fun Γ ad hO hR => ?_)
  refine zY.aload_n hO dX9_print_0 rfl ?_
  refine zY.getR zfl_X9_23 (by decide : 62 < 150) rfl rfl hO dX9_print_1 ?_
  refine zY.callV0v (ct_X7_refill zst_68) (by decide) zcal_X7_refill zml_X9_93 (by decide : 68 < 150) rfl rfl (Nat.le_of_ble_eq_true rfl) rfl ⟨Nat.zero_le _, Nat.zero_le _⟩ hO dX9_print_4 (fun μ1 hq1 => ?_)
  obtain ⟨hq, hq1, hq2⟩ := hq1
  refine zY.iconst hO dX9_print_7 ?_
  refine zY.istore2 (zc1_I _) hO dX9_print_8 ?_
  have L9 : ∀ i : Nat, i ≤ 6 → ∀ (μ1 : zMem) (hq : Nat → Int), μ1 = zrow μ 72 hq → (∀ x, x < 6 → hq x = zaf D set i x) → zY Γ (150, zSX, ad, 0, 0) 9 [some (zP 62), some (zI (set : Int)), some (zI (i : Int))] [] μ1 := by
    refine zdown (6) (fun i hi_i ih9 => ?_)
    intro μ1 hq hI hJ
    refine zY.iload_n hO dX9_print_9 rfl ?_
    refine zY.bipush hO dX9_print_10 (by decide) ?_
    refine zY.icmp_ge (tgt := 44) ⟨by omega, by omega⟩ ⟨by omega, by omega⟩ hO dX9_print_12 (by decide) (fun c12 => ?_) (fun c12 => ?_)
    ·
      exact zY.vret rfl ⟨rfl, ⟨hq, hI, fun x hx => by rw [hJ x hx, show i = 6 by omega]⟩⟩ hR hO dX9_print_44
    ·
      refine zY.iload_n hO dX9_print_15 rfl ?_
      refine zY.iload_n hO dX9_print_16 rfl ?_
      refine zY.callSN2iD (ct_X10_has hset (by omega)) (by decide) zcal_X10_has zmn_X9_78 (Nat.le_of_ble_eq_true rfl) rfl ⟨Nat.zero_le _, Nat.zero_le _⟩ hO dX9_print_17 ?_
      refine zY.if_eq (tgt := 38) zr_b hO dX9_print_20 (by decide) (fun c20 => ?_) (fun c20 => ?_)
      ·
        replace c20 := zb0.mp c20
        refine zY.iinc2 ((i + 1 : Nat) : Int) (by omega) (zc1_I _) hO dX9_print_38 ?_
        refine zY.goto (tgt := 9) hO dX9_print_41 (by decide) ?_
        exact ih9 (by omega) _ hq hI (fun x hx => by rw [hJ x hx]; simp only [zaf]; rw [if_neg c20])
      ·
        replace c20 := zb1.mp c20
        refine zY.aload_n hO dX9_print_23 rfl ?_
        refine zY.getR zfl_X9_23 (by decide : 62 < 150) rfl rfl hO dX9_print_24 ?_
        refine zY.aload_n hO dX9_print_27 rfl ?_
        refine zY.getR zfl_X9_14 (by decide : 62 < 150) rfl rfl hO dX9_print_28 ?_
        refine zY.iload_n hO dX9_print_31 rfl ?_
        refine zY.callV1iD (ct_X0_broken zbl_63 (by omega)) (by decide) zcal_X0_broken zml_X9_96 (by decide : 63 < 150) rfl rfl (Nat.le_of_ble_eq_true rfl) rfl ⟨Nat.zero_le _, Nat.zero_le _⟩ hO dX9_print_32 ?_
        refine zY.as (b := zbx D i 0) (by rw [hI, zrow_ne (by decide)]; exact (hy.1 i (by omega)).2) ?_
        refine zY.callV1vD (ct_breakOne zst_68 (zbx_b 0 hW (by omega)) (fun x hx => by rw [hI]; have hz1 := zaf_b hW set hx i; have hz2 := hJ x hx; rw [show zrow μ 72 hq (68 + 4) = hq from zrow_eq]; exact ⟨by omega, by omega⟩)) (by decide) zcal_X7_breakOne zml_X9_99 (by decide : 68 < 150) rfl rfl (Nat.le_of_ble_eq_true rfl) rfl ⟨Nat.zero_le _, Nat.zero_le _⟩ hO dX9_print_35 ?_
        refine zY.iinc2 ((i + 1 : Nat) : Int) (by omega) (zc1_I _) hO dX9_print_38 ?_
        refine zY.goto (tgt := 9) hO dX9_print_41 (by decide) ?_
        exact ih9 (by omega) _ (zls hq (zbx D i 0)) (by rw [hI, show zrow μ 72 hq (68 + 4) = hq from zrow_eq]; exact zrow_row) (fun x hx => by simp only [zaf]; rw [if_pos c20]; exact zls_congr (hJ x hx))
  exact L9 0 (by omega) μ1 hq hq1 (fun x hx => (hq2 x hx).trans (hy.2.1 x hx))

set_option maxRecDepth 100000 in
set_option maxHeartbeats 4000000 in
theorem ct_X9_canFollow {μ : zMem} {D : zBk} {want : Nat → Int} (hW : zWF D) (hy : zWy D want μ) (hwn : ∀ s, s < 6 → -6 ≤ want s ∧ want s ≤ 30) {set s : Nat} (hset : set < 64) (hs : s < 6) (hl : ∀ x, x < 6 → μ 72 x = zaf D set 6 x) : Ci kX9_canFollow 6 150 zSX [zP 62, zI (set : Int), zI (s : Int)] μ (fun a μ' => a = (if zmy D want set s = true then 1 else 0) ∧ μ' = μ) := by
  refine Ct.of [some (zP 62), some (zI (set : Int)), some (zI (s : Int))] rfl (Nat.le_of_ble_eq_true rfl) (by decide +kernel) (fun Γ ad hO hR => ?_)
  have hrz : ∀ x, x < 6 → -1000 ≤ znd D s 0 x ∧ znd D s 0 x ≤ 1000 ∧ -1000 ≤ zaf D set 6 x ∧ zaf D set 6 x ≤ 1000 := fun x hx => by have hz1 := znd_b (ch := 0) x hW hs; have hz2 := zaf_b hW set hx 6; omega
  have hzk := zlk_b hrz
  have hws := hwn s hs
  have hdf := zb_dif _ (zthD_64 D) _ hset _ hs
  refine zY.aload_n hO dX9_canFollow_0 rfl ?_
  refine zY.getI zfl_X9_37 (by decide : 62 < 150) rfl rfl hO dX9_canFollow_1 ?_
  refine zY.as (b := (zthD D : Int)) hy.2.2.1 ?_
  refine zY.iload_n hO dX9_canFollow_4 rfl ?_
  refine zY.iconst hO dX9_canFollow_5 ?_
  refine zY.ixor (c := (-1 - (set : Int))) (zb_not set hset) hO dX9_canFollow_6 ?_
  refine zY.iand (c := ((zthD D - (zthD D &&& set) : Nat) : Int)) (zb_andn _ (zthD_64 D) _ hset) hO dX9_canFollow_7 ?_
  refine zY.iload_n hO dX9_canFollow_8 rfl ?_
  have hd64 : zthD D - (zthD D &&& set) < 64 := by have := zthD_64 D; omega
  refine zY.callSN2iD (ct_X10_has hd64 hs) (by decide) zcal_X10_has zmn_X9_78 (Nat.le_of_ble_eq_true rfl) rfl ⟨Nat.zero_le _, Nat.zero_le _⟩ hO dX9_canFollow_9 ?_
  refine zY.if_ne (tgt := 17) zr_b hO dX9_canFollow_12 (by decide) (fun c12 => ?_) (fun c12 => ?_)
  ·
    replace c12 := zb1.mp c12
    refine zY.aload_n hO dX9_canFollow_17 rfl ?_
    refine zY.getR zfl_X9_30 (by decide : 62 < 150) rfl rfl hO dX9_canFollow_18 ?_
    refine zY.iload_n hO dX9_canFollow_21 rfl ?_
    refine zY.callV1iD (ct_atN zrw_73 (j := s) hs) (by decide) zcal_X5_at zml_X9_71 (by decide : 73 < 150) rfl rfl (Nat.le_of_ble_eq_true rfl) rfl ⟨Nat.zero_le _, Nat.zero_le _⟩ hO dX9_canFollow_22 ?_
    refine zY.as (b := want s) (hy.2.2.2 s hs) ?_
    refine zY.bipush hO dX9_canFollow_25 (by decide) ?_
    refine zY.icmp_eq (tgt := 53) ⟨by omega, by omega⟩ ⟨by omega, by omega⟩ hO dX9_canFollow_27 (by decide) (fun c27 => ?_) (fun c27 => ?_)
    ·
      refine zY.iconst hO dX9_canFollow_53 ?_
      refine zY.goto (tgt := 58) hO dX9_canFollow_54 (by decide) ?_
      exact zY.zret (by decide) rfl ⟨_, rfl, ⟨by rw [if_pos]; unfold zmy; rw [← hdf, c12]; simp [c27], rfl⟩⟩ hR hO dX9_canFollow_58
    ·
      refine zY.aload_n hO dX9_canFollow_30 rfl ?_
      refine zY.getR zfl_X9_23 (by decide : 62 < 150) rfl rfl hO dX9_canFollow_31 ?_
      refine zY.aload_n hO dX9_canFollow_34 rfl ?_
      refine zY.getR zfl_X9_14 (by decide : 62 < 150) rfl rfl hO dX9_canFollow_35 ?_
      refine zY.iload_n hO dX9_canFollow_38 rfl ?_
      refine zY.callV2iD (ct_X7_lacks zst_68 zbl_63 (A := znd D s 0) (F := zaf D set 6) (hy.1 s hs).1 hl hrz hs) (by decide) zcal_X7_lacks zml_X9_102 (by decide : 68 < 150) rfl rfl (Nat.le_of_ble_eq_true rfl) rfl ⟨Nat.zero_le _, Nat.zero_le _⟩ hO dX9_canFollow_39 ?_
      refine zY.aload_n hO dX9_canFollow_42 rfl ?_
      refine zY.getR zfl_X9_30 (by decide : 62 < 150) rfl rfl hO dX9_canFollow_43 ?_
      refine zY.iload_n hO dX9_canFollow_46 rfl ?_
      refine zY.callV1iD (ct_atN zrw_73 (j := s) hs) (by decide) zcal_X5_at zml_X9_71 (by decide : 73 < 150) rfl rfl (Nat.le_of_ble_eq_true rfl) rfl ⟨Nat.zero_le _, Nat.zero_le _⟩ hO dX9_canFollow_47 ?_
      refine zY.as (b := want s) (hy.2.2.2 s hs) ?_
      refine zY.icmp_ne (tgt := 57) ⟨by omega, by omega⟩ ⟨by omega, by omega⟩ hO dX9_canFollow_50 (by decide) (fun c50 => ?_) (fun c50 => ?_)
      ·
        refine zY.iconst hO dX9_canFollow_57 ?_
        exact zY.zret (by decide) rfl ⟨_, rfl, ⟨by rw [if_neg]; unfold zmy; rw [← hdf, c12]; simp [c27, c50], rfl⟩⟩ hR hO dX9_canFollow_58
      ·
        refine zY.iconst hO dX9_canFollow_53 ?_
        refine zY.goto (tgt := 58) hO dX9_canFollow_54 (by decide) ?_
        exact zY.zret (by decide) rfl ⟨_, rfl, ⟨by rw [if_pos]; unfold zmy; rw [← hdf, c12]; simp [c27, c50], rfl⟩⟩ hR hO dX9_canFollow_58
  ·
    replace c12 := zb0.mp c12
    refine zY.iconst hO dX9_canFollow_15 ?_
    exact zY.zret (Or.inl rfl) rfl ⟨_, rfl, ⟨by rw [if_neg]; unfold zmy; rw [← hdf, eq_false_of_ne_true c12]; simp, rfl⟩⟩ hR hO dX9_canFollow_16

set_option maxRecDepth 100000 in
set_option maxHeartbeats 4000000 in
theorem ct_X9_countRests {μ : zMem} {D : zBk} {want : Nat → Int} (hW : zWF D) (hy : zWy D want μ) (hwn : ∀ s, s < 6 → -6 ≤ want s ∧ want s ≤ 30) {set : Nat} {a b : Int} (hset : set < 64) (hab : (a = -6 ∧ b = -6) ∨ (0 ≤ a ∧ a ≤ 5 ∧ 0 ≤ b ∧ b ≤ 5)) : Ci kX9_countRests 7 150 zSX [zP 62, zI (set : Int), zI a, zI b] μ (fun r μ' => r = zwv D want a b (μ 76) set ∧ ∃ h, μ' = zrow μ 72 h) := by
  refine Ct.of [some (zP 62), some (zI (set : Int)), some (zI a), some (zI b), none, none, none] rfl (Nat.le_of_ble_eq_true rfl) (by decide +kernel) (fun Γ ad hO hR => ?_)
  have hth := zthD_64 D
  refine zY.iload_n hO dX9_countRests_0 rfl ?_
  refine zY.aload_n hO dX9_countRests_1 rfl ?_
  refine zY.getI zfl_X9_37 (by decide : 62 < 150) rfl rfl hO dX9_countRests_2 ?_
  refine zY.as (b := (zthD D : Int)) hy.2.2.1 ?_
  refine zY.icmp_ne (tgt := 10) ⟨by omega, by omega⟩ ⟨by omega, by omega⟩ hO dX9_countRests_5 (by decide) (fun c5 => ?_) (fun c5 => ?_)
  ·
    refine zY.iload_n hO dX9_countRests_10 rfl ?_
    refine zY.aload_n hO dX9_countRests_11 rfl ?_
    refine zY.getI zfl_X9_37 (by decide : 62 < 150) rfl rfl hO dX9_countRests_12 ?_
    refine zY.as (b := (zthD D : Int)) hy.2.2.1 ?_
    refine zY.iconst hO dX9_countRests_15 ?_
    refine zY.ixor (c := (-1 - (zthD D : Int))) (zb_not _ hth) hO dX9_countRests_16 ?_
    refine zY.iand (c := ((set - (set &&& zthD D) : Nat) : Int)) (zb_andn _ hset _ hth) hO dX9_countRests_17 ?_
    refine zY.if_eq (tgt := 23) ⟨by omega, by omega⟩ hO dX9_countRests_18 (by decide) (fun c18 => ?_) (fun c18 => ?_)
    ·
      have hsub : set &&& zthD D = set := (zb_sub0 _ hset _ hth).mp (by omega)
      refine zY.aload_n hO dX9_countRests_23 rfl ?_
      refine zY.iload_n hO dX9_countRests_24 rfl ?_
      refine zY.callV1v (ct_X9_print hW hy hset) (by decide) zcal_X9_print zml_X9_75 (by decide : 62 < 150) rfl rfl (Nat.le_of_ble_eq_true rfl) rfl ⟨Nat.zero_le _, Nat.zero_le _⟩ hO dX9_countRests_25 (fun μ2 hq1 => ?_)
      obtain ⟨hq, hq1, hq2⟩ := hq1
      have hy2 : zWy D want μ2 := by rw [hq1]; exact hy.r72
      have hl2 : ∀ x, x < 6 → μ2 72 x = zaf D set 6 x := fun x hx => by rw [hq1, zrow_eq]; exact hq2 x hx
      refine zY.iconst hO dX9_countRests_28 ?_
      refine zY.istore4 (zc1_I _) hO dX9_countRests_29 ?_
      refine zY.iconst hO dX9_countRests_31 ?_
      refine zY.istore5 (zc1_I _) hO dX9_countRests_32 ?_
      have L34 : ∀ i : Nat, i ≤ 6 → zY Γ (150, zSX, ad, 0, 0) 34 [some (zP 62), some (zI (set : Int)), some (zI a), some (zI b), some (zI (zsum (fun s => if zmy D want set s = true ∧ ¬ ((s : Int) = b ∧ set.testBit a.toNat = false) then μ 76 (set ||| 2 ^ s) else 0) i)), some (zI (i : Int)), none] [] μ2 := by
        refine zdown (6) (fun i hi_i ih34 => ?_)
        refine zY.iload hO dX9_countRests_34 rfl ?_
        refine zY.bipush hO dX9_countRests_36 (by decide) ?_
        refine zY.icmp_ge (tgt := 101) ⟨by omega, by omega⟩ ⟨by omega, by omega⟩ hO dX9_countRests_38 (by decide) (fun c38 => ?_) (fun c38 => ?_)
        ·
          refine zY.iload hO dX9_countRests_101 rfl ?_
          exact zY.iret rfl ⟨_, rfl, ⟨by unfold zwv; rw [if_neg (by omega), if_pos hsub, show i = 6 by omega], hq, hq1⟩⟩ hR hO dX9_countRests_103
        ·
          have L60 : ∀ eq : Int, (eq = 1 ∧ ((i : Int) = b ∧ set.testBit a.toNat = false) ∨ eq = 0 ∧ ¬ ((i : Int) = b ∧ set.testBit a.toNat = false)) → zY Γ (150, zSX, ad, 0, 0) 60 [some (zP 62), some (zI (set : Int)), some (zI a), some (zI b), some (zI (zsum (fun s => if zmy D want set s = true ∧ ¬ ((s : Int) = b ∧ set.testBit a.toNat = false) then μ 76 (set ||| 2 ^ s) else 0) i)), some (zI (i : Int)), none] [zI eq] μ2 := by
            intro eq heq
            refine zY.istore6 (zc1_I _) hO dX9_countRests_60 ?_
            refine zY.iload hO dX9_countRests_62 rfl ?_
            refine zY.if_ne (tgt := 95) ⟨by omega, by omega⟩ hO dX9_countRests_64 (by decide) (fun c64 => ?_) (fun c64 => ?_)
            ·
              have hlate : ((i : Int) = b ∧ set.testBit a.toNat = false) := by rcases heq with hz | hz; exact hz.2; omega
              refine zY.iinc5 ((i + 1 : Nat) : Int) (by omega) (zc1_I _) hO dX9_countRests_95 ?_
              refine zY.goto (tgt := 34) hO dX9_countRests_98 (by decide) ?_
              refine zY.none6 ?_
              have hin := ih34 (by omega)
              rw [show zsum (fun s => if zmy D want set s = true ∧ ¬ ((s : Int) = b ∧ set.testBit a.toNat = false) then μ 76 (set ||| 2 ^ s) else 0) (i + 1) = zsum (fun s => if zmy D want set s = true ∧ ¬ ((s : Int) = b ∧ set.testBit a.toNat = false) then μ 76 (set ||| 2 ^ s) else 0) i from (by simp only [zsum]; rw [if_neg (fun z => z.2 hlate)]; omega)] at hin
              exact hin
            ·
              have hlate : ¬ ((i : Int) = b ∧ set.testBit a.toNat = false) := by rcases heq with hz | hz; omega; exact hz.2
              refine zY.aload_n hO dX9_countRests_67 rfl ?_
              refine zY.iload_n hO dX9_countRests_68 rfl ?_
              refine zY.iload hO dX9_countRests_69 rfl ?_
              refine zY.callV2iD (ct_X9_canFollow hW hy2 hwn hset (by omega) hl2) (by decide) zcal_X9_canFollow zml_X9_82 (by decide : 62 < 150) rfl rfl (Nat.le_of_ble_eq_true rfl) rfl ⟨Nat.zero_le _, Nat.zero_le _⟩ hO dX9_countRests_71 ?_
              refine zY.if_eq (tgt := 95) zr_b hO dX9_countRests_74 (by decide) (fun c74 => ?_) (fun c74 => ?_)
              ·
                replace c74 := zb0.mp c74
                refine zY.iinc5 ((i + 1 : Nat) : Int) (by omega) (zc1_I _) hO dX9_countRests_95 ?_
                refine zY.goto (tgt := 34) hO dX9_countRests_98 (by decide) ?_
                refine zY.none6 ?_
                have hin := ih34 (by omega)
                rw [show zsum (fun s => if zmy D want set s = true ∧ ¬ ((s : Int) = b ∧ set.testBit a.toNat = false) then μ 76 (set ||| 2 ^ s) else 0) (i + 1) = zsum (fun s => if zmy D want set s = true ∧ ¬ ((s : Int) = b ∧ set.testBit a.toNat = false) then μ 76 (set ||| 2 ^ s) else 0) i from (by simp only [zsum]; rw [if_neg (fun z => c74 z.1)]; omega)] at hin
                exact hin
              ·
                replace c74 := zb1.mp c74
                refine zY.iload hO dX9_countRests_77 rfl ?_
                refine zY.aload_n hO dX9_countRests_79 rfl ?_
                refine zY.getR zfl_X9_34 (by decide : 62 < 150) rfl rfl hO dX9_countRests_80 ?_
                refine zY.iload_n hO dX9_countRests_83 rfl ?_
                refine zY.iconst hO dX9_countRests_84 ?_
                refine zY.iload hO dX9_countRests_85 rfl ?_
                refine zY.ishl (c := ((2 ^ i : Nat) : Int)) (zb_shl i (by omega)) hO dX9_countRests_87 ?_
                refine zY.ior (c := ((set ||| 2 ^ i : Nat) : Int)) (zb_or _ hset _ (Nat.pow_lt_pow_right (by omega) (by omega : i < 6))) hO dX9_countRests_88 ?_
                refine zY.callV1iD (ct_atN zrw_75 (j := set ||| 2 ^ i) (zb_lt64 _ hset _ (by omega))) (by decide) zcal_X5_at zml_X9_71 (by decide : 75 < 150) rfl rfl (Nat.le_of_ble_eq_true rfl) rfl ⟨Nat.zero_le _, Nat.zero_le _⟩ hO dX9_countRests_89 ?_
                refine zY.as (b := μ 76 (set ||| 2 ^ i)) (by rw [hq1, zrow_ne (by decide)]) ?_
                refine zY.iadd hO dX9_countRests_92 ?_
                refine zY.istore4 (zc1_I _) hO dX9_countRests_93 ?_
                refine zY.iinc5 ((i + 1 : Nat) : Int) (by omega) (zc1_I _) hO dX9_countRests_95 ?_
                refine zY.goto (tgt := 34) hO dX9_countRests_98 (by decide) ?_
                refine zY.none6 ?_
                have hin := ih34 (by omega)
                rw [show zsum (fun s => if zmy D want set s = true ∧ ¬ ((s : Int) = b ∧ set.testBit a.toNat = false) then μ 76 (set ||| 2 ^ s) else 0) (i + 1) = zsum (fun s => if zmy D want set s = true ∧ ¬ ((s : Int) = b ∧ set.testBit a.toNat = false) then μ 76 (set ||| 2 ^ s) else 0) i + μ 76 (set ||| 2 ^ i) from (by simp only [zsum]; rw [if_pos ⟨c74, hlate⟩])] at hin
                exact hin
          refine zY.iload hO dX9_countRests_41 rfl ?_
          refine zY.iload_n hO dX9_countRests_43 rfl ?_
          refine zY.icmp_ne (tgt := 59) ⟨by omega, by omega⟩ ⟨by omega, by omega⟩ hO dX9_countRests_44 (by decide) (fun c44 => ?_) (fun c44 => ?_)
          ·
            refine zY.iconst hO dX9_countRests_59 ?_
            exact L60 _ (Or.inr ⟨rfl, fun z => c44 z.1⟩)
          ·
            refine zY.iload_n hO dX9_countRests_47 rfl ?_
            refine zY.iload_n hO dX9_countRests_48 rfl ?_
            obtain ⟨aq, haq⟩ : ∃ aq : Nat, a = (aq : Int) := ⟨a.toNat, by omega⟩
            refine zY.as haq ?_
            refine zY.callSN2iD (ct_X10_has hset (by omega)) (by decide) zcal_X10_has zmn_X9_78 (Nat.le_of_ble_eq_true rfl) rfl ⟨Nat.zero_le _, Nat.zero_le _⟩ hO dX9_countRests_49 ?_
            refine zY.if_ne (tgt := 59) zr_b hO dX9_countRests_52 (by decide) (fun c52 => ?_) (fun c52 => ?_)
            ·
              replace c52 := zb1.mp c52
              refine zY.iconst hO dX9_countRests_59 ?_
              exact L60 _ (Or.inr ⟨rfl, fun z => by have hz2 := z.2; rw [haq, Int.toNat_natCast, c52] at hz2; cases hz2⟩)
            ·
              replace c52 := zb0.mp c52
              refine zY.iconst hO dX9_countRests_55 ?_
              refine zY.goto (tgt := 60) hO dX9_countRests_56 (by decide) ?_
              exact L60 _ (Or.inl ⟨rfl, c44, by rw [haq, Int.toNat_natCast]; exact eq_false_of_ne_true c52⟩)
      exact L34 0 (by omega)
    ·
      have hsub : ¬ set &&& zthD D = set := fun z => by have := (zb_sub0 _ hset _ hth).mpr z; omega
      refine zY.iconst hO dX9_countRests_21 ?_
      exact zY.iret rfl ⟨_, rfl, ⟨by unfold zwv; rw [if_neg (by omega), if_neg hsub], _, (zrow_self (fun _ => rfl)).symm⟩⟩ hR hO dX9_countRests_22
  ·
    refine zY.iconst hO dX9_countRests_8 ?_
    exact zY.iret rfl ⟨_, rfl, ⟨by unfold zwv; rw [if_pos (by omega)], _, (zrow_self (fun _ => rfl)).symm⟩⟩ hR hO dX9_countRests_9

set_option maxRecDepth 100000 in
set_option maxHeartbeats 4000000 in
theorem ct_X9_count {μ : zMem} {D : zBk} {want : Nat → Int} (hW : zWF D) (hy : zWy D want μ) (hwn : ∀ s, s < 6 → -6 ≤ want s ∧ want s ≤ 30) {a b : Int} (hab : (a = -6 ∧ b = -6) ∨ (0 ≤ a ∧ a ≤ 5 ∧ 0 ≤ b ∧ b ≤ 5)) : Ci kX9_count 8 150 zSX [zP 62, zI a, zI b] μ (fun r μ' => r = zWay D want a b ∧ ∃ h g, μ' = zrow (zrow μ 72 h) 76 g ∧ ∀ j, j < 64 → g j = zwt D want a b 64 j) := by
  refine Ct.of [some (zP 62), some (zI a), some (zI b), none] rfl (Nat.le_of_ble_eq_true rfl) (by decide +kernel) (fun Γ ad hO hR => ?_)
  refine zY.bipush hO dX9_count_0 (by decide) ?_
  refine zY.istore3 (zc1_I _) hO dX9_count_2 ?_
  have L3 : ∀ i : Nat, i ≤ 64 → ∀ (μ1 : zMem) (hq gq : Nat → Int), μ1 = zrow (zrow μ 72 hq) 76 gq → (∀ j, 64 ≤ j + i → j < 64 → gq j = zwt D want a b i j) → zY Γ (150, zSX, ad, 0, 0) 3 [some (zP 62), some (zI a), some (zI b), some (zI (63 - (i : Int)))] [] μ1 := by
    refine zdown (64) (fun i hi_i ih3 => ?_)
    intro μ1 hq gq hI hJ
    refine zY.iload_n hO dX9_count_3 rfl ?_
    refine zY.if_lt (tgt := 28) ⟨by omega, by omega⟩ hO dX9_count_4 (by decide) (fun c4 => ?_) (fun c4 => ?_)
    ·
      refine zY.aload_n hO dX9_count_28 rfl ?_
      refine zY.getR zfl_X9_34 (by decide : 62 < 150) rfl rfl hO dX9_count_29 ?_
      refine zY.iconst hO dX9_count_32 ?_
      refine zY.callV1iD (ct_atN zrw_75 (j := 0) (by omega)) (by decide) zcal_X5_at zml_X9_71 (by decide : 75 < 150) rfl rfl (Nat.le_of_ble_eq_true rfl) rfl ⟨Nat.zero_le _, Nat.zero_le _⟩ hO dX9_count_33 ?_
      exact zY.iret rfl ⟨_, rfl, ⟨by rw [hI, zrow_eq, hJ 0 (by omega) (by omega), show i = 64 by omega]; rfl, hq, gq, hI, fun j hj => by rw [hJ j (by omega) hj, show i = 64 by omega]⟩⟩ hR hO dX9_count_36
    ·
      refine zY.aload_n hO dX9_count_7 rfl ?_
      refine zY.getR zfl_X9_34 (by decide : 62 < 150) rfl rfl hO dX9_count_8 ?_
      refine zY.iload_n hO dX9_count_11 rfl ?_
      refine zY.aload_n hO dX9_count_12 rfl ?_
      refine zY.iload_n hO dX9_count_13 rfl ?_
      refine zY.iload_n hO dX9_count_14 rfl ?_
      refine zY.iload_n hO dX9_count_15 rfl ?_
      refine zY.as3 (b := ((63 - i : Nat) : Int)) (by omega) ?_
      refine zY.callV3i (ct_X9_countRests hW (by rw [hI]; exact hy.r72.r76) hwn (by omega) hab) (by decide) zcal_X9_countRests zml_X9_63 (by decide : 62 < 150) rfl rfl (Nat.le_of_ble_eq_true rfl) rfl ⟨Nat.zero_le _, Nat.zero_le _⟩ hO dX9_count_16 (fun rq μ2 hq1 => ?_)
      obtain ⟨hq1, h2q, hq2⟩ := hq1
      refine zY.as2 (b := ((63 - i : Nat) : Int)) (by omega) ?_
      refine zY.callV2vD (ct_putN zrw_75 (j := 63 - i) (by omega)) (by decide) zcal_X5_put zml_X9_67 (by decide : 75 < 150) rfl rfl (Nat.le_of_ble_eq_true rfl) rfl ⟨Nat.zero_le _, Nat.zero_le _⟩ hO dX9_count_19 ?_
      refine zY.iinc3 (63 - ((i + 1 : Nat) : Int)) (by omega) (zc1_I _) hO dX9_count_22 ?_
      refine zY.goto (tgt := 3) hO dX9_count_25 (by decide) ?_
      refine ih3 (by omega) _ h2q (fun j => if j = 63 - i then rq else gq j) (by rw [hq2, hI, zwr_eq_row, zrow_ne (q := 72) (q' := 76) (by decide), zrow_eq]; funext q j; by_cases h1 : q = 76 <;> by_cases h2 : q = 72 <;> simp [zrow, h1, h2]) (fun j h1 h2 => ?_)
      simp only [zwt]
      by_cases hj : j = 63 - i
      · rw [if_pos hj, if_pos hj, hq1, hI, zrow_eq]
        exact zwv_congr (by omega) (fun j' h3 h4 => hJ j' (by omega) h4)
      · rw [if_neg hj, if_neg hj]
        exact hJ j (by omega) h2
  exact L3 0 (by omega) μ (μ 72) (μ 76) (by rw [zrow_self (q := 72) (fun _ => rfl), zrow_self (fun _ => rfl)]) (fun j h1 h2 => by omega)

set_option maxRecDepth 100000 in
set_option maxHeartbeats 4000000 in
theorem ct_X9_leastAfter {μ : zMem} {D : zBk} {want : Nat → Int} (hW : zWF D) (hy : zWy D want μ) (hwn : ∀ s, s < 6 → -6 ≤ want s ∧ want s ≤ 30) {t : Nat → Int} (ht : ∀ j, j < 64 → μ 76 j = t j) (htb : ∀ j, j < 64 → zr (t j)) {set : Nat} (hset : set < 64) : Ci kX9_leastAfter 7 150 zSX [zP 62, zI (set : Int)] μ (fun r μ' => r = znx D want t set ∧ ∃ h, μ' = zrow μ 72 h) := by
  refine Ct.of [some (zP 62), some (zI (set : Int)), none] rfl (Nat.le_of_ble_eq_true rfl) (by decide +kernel) (fun Γ ad hO hR => ?_)
  refine zY.aload_n hO dX9_leastAfter_0 rfl ?_
  refine zY.iload_n hO dX9_leastAfter_1 rfl ?_
  refine zY.callV1v (ct_X9_print hW hy hset) (by decide) zcal_X9_print zml_X9_75 (by decide : 62 < 150) rfl rfl (Nat.le_of_ble_eq_true rfl) rfl ⟨Nat.zero_le _, Nat.zero_le _⟩ hO dX9_leastAfter_2 (fun μ2 hq1 => ?_)
  obtain ⟨hq, hq1, hq2⟩ := hq1
  have hy2 : zWy D want μ2 := by rw [hq1]; exact hy.r72
  have hl2 : ∀ x, x < 6 → μ2 72 x = zaf D set 6 x := fun x hx => by rw [hq1, zrow_eq]; exact hq2 x hx
  refine zY.iconst hO dX9_leastAfter_5 ?_
  refine zY.istore2 (zc1_I _) hO dX9_leastAfter_6 ?_
  have L7 : ∀ i : Nat, i ≤ 6 → znx D want t set = zfst (fun s => zmy D want set s && decide (0 < t (set ||| 2 ^ s))) i (6 - i) → zY Γ (150, zSX, ad, 0, 0) 7 [some (zP 62), some (zI (set : Int)), some (zI (i : Int))] [] μ2 := by
    refine zdown (6) (fun i hi_i ih7 => ?_)
    intro hV
    refine zY.iload_n hO dX9_leastAfter_7 rfl ?_
    refine zY.bipush hO dX9_leastAfter_8 (by decide) ?_
    refine zY.icmp_ge (tgt := 45) ⟨by omega, by omega⟩ ⟨by omega, by omega⟩ hO dX9_leastAfter_10 (by decide) (fun c10 => ?_) (fun c10 => ?_)
    ·
      refine zY.bipush hO dX9_leastAfter_45 (by decide) ?_
      exact zY.iret rfl ⟨_, rfl, ⟨by rw [hV, show i = 6 by omega, zfst_end], hq, hq1⟩⟩ hR hO dX9_leastAfter_47
    ·
      refine zY.aload_n hO dX9_leastAfter_13 rfl ?_
      refine zY.iload_n hO dX9_leastAfter_14 rfl ?_
      refine zY.iload_n hO dX9_leastAfter_15 rfl ?_
      refine zY.callV2iD (ct_X9_canFollow hW hy2 hwn hset (by omega) hl2) (by decide) zcal_X9_canFollow zml_X9_82 (by decide : 62 < 150) rfl rfl (Nat.le_of_ble_eq_true rfl) rfl ⟨Nat.zero_le _, Nat.zero_le _⟩ hO dX9_leastAfter_16 ?_
      refine zY.if_eq (tgt := 39) zr_b hO dX9_leastAfter_19 (by decide) (fun c19 => ?_) (fun c19 => ?_)
      ·
        replace c19 := zb0.mp c19
        refine zY.iinc2 ((i + 1 : Nat) : Int) (by omega) (zc1_I _) hO dX9_leastAfter_39 ?_
        refine zY.goto (tgt := 7) hO dX9_leastAfter_42 (by decide) ?_
        exact ih7 (by omega) (by rw [hV, zfst_go (by omega) (by rw [eq_false_of_ne_true c19]; simp)])
      ·
        replace c19 := zb1.mp c19
        refine zY.aload_n hO dX9_leastAfter_22 rfl ?_
        refine zY.getR zfl_X9_34 (by decide : 62 < 150) rfl rfl hO dX9_leastAfter_23 ?_
        refine zY.iload_n hO dX9_leastAfter_26 rfl ?_
        refine zY.iconst hO dX9_leastAfter_27 ?_
        refine zY.iload_n hO dX9_leastAfter_28 rfl ?_
        refine zY.ishl (c := ((2 ^ i : Nat) : Int)) (zb_shl i (by omega)) hO dX9_leastAfter_29 ?_
        refine zY.ior (c := ((set ||| 2 ^ i : Nat) : Int)) (zb_or _ hset _ (Nat.pow_lt_pow_right (by omega) (by omega : i < 6))) hO dX9_leastAfter_30 ?_
        refine zY.callV1iD (ct_atN zrw_75 (j := set ||| 2 ^ i) (zb_lt64 _ hset _ (by omega))) (by decide) zcal_X5_at zml_X9_71 (by decide : 75 < 150) rfl rfl (Nat.le_of_ble_eq_true rfl) rfl ⟨Nat.zero_le _, Nat.zero_le _⟩ hO dX9_leastAfter_31 ?_
        refine zY.as (b := t (set ||| 2 ^ i)) (by rw [hq1, zrow_ne (by decide)]; exact ht _ (zb_lt64 _ hset _ (by omega))) ?_
        refine zY.if_le (tgt := 39) (htb _ (zb_lt64 _ hset _ (by omega))) hO dX9_leastAfter_34 (by decide) (fun c34 => ?_) (fun c34 => ?_)
        ·
          refine zY.iinc2 ((i + 1 : Nat) : Int) (by omega) (zc1_I _) hO dX9_leastAfter_39 ?_
          refine zY.goto (tgt := 7) hO dX9_leastAfter_42 (by decide) ?_
          exact ih7 (by omega) (by rw [hV, zfst_go (by omega) (by rw [c19, decide_eq_false (by omega)]; simp)])
        ·
          refine zY.iload_n hO dX9_leastAfter_37 rfl ?_
          exact zY.iret rfl ⟨_, rfl, ⟨by rw [hV, zfst_hit (by omega) (by rw [c19, decide_eq_true (by omega)]; rfl)], hq, hq1⟩⟩ hR hO dX9_leastAfter_38
  exact L7 0 (by omega) rfl

set_option maxRecDepth 100000 in
set_option maxHeartbeats 4000000 in
theorem ct_X9_leastAt {μ : zMem} {D : zBk} {want : Nat → Int} (hW : zWF D) (hy : zWy D want μ) (hwn : ∀ s, s < 6 → -6 ≤ want s ∧ want s ≤ 30) {t : Nat → Int} (ht : ∀ j, j < 64 → μ 76 j = t j) (htb : ∀ j, j < 64 → zr (t j)) {x : Int} (hx : zr x) : Ci kX9_leastAt 8 150 zSX [zP 62, zI x] μ (fun r μ' => r = zlp D want t x 6 0 0 ∧ ∃ h, μ' = zrow μ 72 h) := by
  refine Ct.of [some (zP 62), some (zI x), none, none, none] rfl (Nat.le_of_ble_eq_true rfl) (by decide +kernel) (fun Γ ad hO hR => ?_)
  refine zY.iconst hO dX9_leastAt_0 ?_
  refine zY.istore2 (zc1_I _) hO dX9_leastAt_1 ?_
  refine zY.iconst hO dX9_leastAt_2 ?_
  refine zY.istore3 (zc1_I _) hO dX9_leastAt_3 ?_
  have L4 : ∀ i : Nat, i ≤ 6 → ∀ (μ1 : zMem) (hq : Nat → Int) (set : Nat), μ1 = zrow μ 72 hq → set < 64 → zlp D want t x 6 0 0 = zlp D want t x (6 - i) i set → zY Γ (150, zSX, ad, 0, 0) 4 [some (zP 62), some (zI x), some (zI (set : Int)), some (zI (i : Int)), none] [] μ1 := by
    refine zdown (6) (fun i hi_i ih4 => ?_)
    intro μ1 hq set hI h64 hV
    refine zY.iload_n hO dX9_leastAt_4 rfl ?_
    refine zY.bipush hO dX9_leastAt_5 (by decide) ?_
    refine zY.icmp_ge (tgt := 45) ⟨by omega, by omega⟩ ⟨by omega, by omega⟩ hO dX9_leastAt_7 (by decide) (fun c7 => ?_) (fun c7 => ?_)
    ·
      refine zY.bipush hO dX9_leastAt_45 (by decide) ?_
      exact zY.iret rfl ⟨_, rfl, ⟨by rw [hV, show i = 6 by omega]; rfl, hq, hI⟩⟩ hR hO dX9_leastAt_47
    ·
      refine zY.aload_n hO dX9_leastAt_10 rfl ?_
      refine zY.iload_n hO dX9_leastAt_11 rfl ?_
      refine zY.callV1i (ct_X9_leastAfter (t := t) hW (by rw [hI]; exact hy.r72) hwn (fun j hj => by rw [hI, zrow_ne (by decide)]; exact ht j hj) htb h64) (by decide) zcal_X9_leastAfter zml_X9_85 (by decide : 62 < 150) rfl rfl (Nat.le_of_ble_eq_true rfl) rfl ⟨Nat.zero_le _, Nat.zero_le _⟩ hO dX9_leastAt_12 (fun rq μ2 hq1 => ?_)
      obtain ⟨rfl, h2q, hq2⟩ := hq1
      have hb := zfst_b (fun s => zmy D want set s && decide (0 < t (set ||| 2 ^ s))) 6 0
      have hstep : zlp D want t x (6 - i) i set = if znx D want t set = -6 ∨ (i : Int) = x then znx D want t set else zlp D want t x (6 - (i + 1)) (i + 1) (set ||| 2 ^ (znx D want t set).toNat) := by rw [show 6 - i = (6 - (i + 1)) + 1 by omega]; rfl
      have hnb : znx D want t set = -6 ∨ (0 ≤ znx D want t set ∧ znx D want t set < 6) := by unfold znx; omega
      refine zY.istore4 (zc1_I _) hO dX9_leastAt_15 ?_
      refine zY.iload hO dX9_leastAt_17 rfl ?_
      refine zY.bipush hO dX9_leastAt_19 (by decide) ?_
      refine zY.icmp_eq (tgt := 29) ⟨by omega, by omega⟩ ⟨by omega, by omega⟩ hO dX9_leastAt_21 (by decide) (fun c21 => ?_) (fun c21 => ?_)
      ·
        refine zY.iload hO dX9_leastAt_29 rfl ?_
        exact zY.iret rfl ⟨_, rfl, ⟨by rw [hV, hstep, if_pos (Or.inl c21)], h2q, by rw [hq2, hI, zrow_row]⟩⟩ hR hO dX9_leastAt_31
      ·
        refine zY.iload_n hO dX9_leastAt_24 rfl ?_
        refine zY.iload_n hO dX9_leastAt_25 rfl ?_
        refine zY.icmp_ne (tgt := 32) ⟨by omega, by omega⟩ hx hO dX9_leastAt_26 (by decide) (fun c26 => ?_) (fun c26 => ?_)
        ·
          refine zY.iload_n hO dX9_leastAt_32 rfl ?_
          refine zY.iconst hO dX9_leastAt_33 ?_
          refine zY.iload hO dX9_leastAt_34 rfl ?_
          obtain ⟨yq, hyq⟩ : ∃ yq : Nat, znx D want t set = (yq : Int) := ⟨(znx D want t set).toNat, by omega⟩
          refine zY.as hyq ?_
          refine zY.ishl (c := ((2 ^ yq : Nat) : Int)) (zb_shl yq (by omega)) hO dX9_leastAt_36 ?_
          refine zY.ior (c := ((set ||| 2 ^ yq : Nat) : Int)) (zb_or _ h64 _ (Nat.pow_lt_pow_right (by omega) (by omega : yq < 6))) hO dX9_leastAt_37 ?_
          refine zY.istore2 (zc1_I _) hO dX9_leastAt_38 ?_
          refine zY.iinc3 ((i + 1 : Nat) : Int) (by omega) (zc1_I _) hO dX9_leastAt_39 ?_
          refine zY.goto (tgt := 4) hO dX9_leastAt_42 (by decide) ?_
          refine zY.none4 ?_
          exact ih4 (by omega) _ h2q _ (by rw [hq2, hI, zrow_row]) (zb_lt64 _ h64 _ (by omega)) (by rw [hV, hstep, if_neg (by omega), hyq, Int.toNat_natCast])
        ·
          refine zY.iload hO dX9_leastAt_29 rfl ?_
          exact zY.iret rfl ⟨_, rfl, ⟨by rw [hV, hstep, if_pos (Or.inr (by omega))], h2q, by rw [hq2, hI, zrow_row]⟩⟩ hR hO dX9_leastAt_31
  exact L4 0 (by omega) μ (μ 72) 0 (zrow_self (fun _ => rfl)).symm (by omega) rfl

/-- while a set is looked at: which sets are marked -/
def zrk (D : zBk) (k j : Nat) : Bool := if j < k then zrch D j else (decide (j = 0) || zrq D (zrch D) k j)
def zmk (D : zBk) (i k j : Nat) : Bool := zrk D i j || zany (fun s => zmy D zno i s && decide (j = i ||| 2 ^ s)) k
theorem zrk_self {D : zBk} {k : Nat} : zrk D k k = zrch D k := by
  unfold zrk
  rw [if_neg (by omega), ← zrch_eq]
theorem zrq_iff {D : zBk} {r : Nat → Bool} {k j : Nat} : zrq D r k j = true ↔ ∃ s, s < 6 ∧ j.testBit s = true ∧ j - 2 ^ s < k ∧ r (j - 2 ^ s) = true ∧ zmy D zno (j - 2 ^ s) s = true := by
  unfold zrq
  rw [zany_iff]
  simp only [Bool.and_eq_true, decide_eq_true_eq]
theorem zmy_not {D : zBk} {want : Nat → Int} {set s : Nat} (h : zmy D want set s = true) : set.testBit s = false ∧ (zthD D).testBit s = true := by
  unfold zmy at h
  simp only [Bool.and_eq_true, Bool.not_eq_true'] at h
  exact ⟨h.1.2, h.1.1⟩
theorem zrk_0 {D : zBk} {j : Nat} : zrk D 0 j = decide (j = 0) := by
  unfold zrk
  rw [if_neg (by omega)]
  have : zrq D (zrch D) 0 j = false := by
    apply eq_false_of_ne_true
    rw [zrq_iff]
    rintro ⟨s, _, _, h, _⟩
    omega
  rw [this, Bool.or_false]
theorem zrk_no {D : zBk} {k j : Nat} (h : zrch D k = false) : zrk D (k + 1) j = zrk D k j := by
  unfold zrk
  by_cases h1 : j < k
  · rw [if_pos (by omega), if_pos h1]
  · by_cases h2 : j = k
    · subst h2
      rw [if_pos (by omega), if_neg (by omega), zrch_eq]
    · rw [if_neg (by omega), if_neg (by omega)]
      congr 1
      apply Bool.eq_iff_iff.mpr
      rw [zrq_iff, zrq_iff]
      constructor
      · rintro ⟨s, a1, a2, a3, a4, a5⟩
        refine ⟨s, a1, a2, ?_, a4, a5⟩
        by_cases e : j - 2 ^ s = k
        · rw [e, h] at a4; cases a4
        · omega
      · rintro ⟨s, a1, a2, a3, a4, a5⟩
        exact ⟨s, a1, a2, by omega, a4, a5⟩
theorem zmk_0 {D : zBk} {i j : Nat} : zmk D i 0 j = zrk D i j := by
  unfold zmk
  simp only [zany]
  exact Bool.or_false _
theorem zmk_s {D : zBk} {i k j : Nat} : zmk D i (k + 1) j = (zmk D i k j || (zmy D zno i k && decide (j = i ||| 2 ^ k))) := by
  unfold zmk
  simp only [zany]
  exact (Bool.or_assoc _ _ _).symm
theorem zmk_6 {D : zBk} {i j : Nat} (hi : i < 64) (hj : j < 64) (h : zrch D i = true) : zmk D i 6 j = zrk D (i + 1) j := by
  have hz : (zany (fun s => zmy D zno i s && decide (j = i ||| 2 ^ s)) 6 = true) ↔ ∃ s, s < 6 ∧ zmy D zno i s = true ∧ j = i ||| 2 ^ s := by
    rw [zany_iff]
    simp only [Bool.and_eq_true, decide_eq_true_eq]
  unfold zmk
  apply Bool.eq_iff_iff.mpr
  rw [Bool.or_eq_true, hz]
  have hgt : ∀ s, s < 6 → zmy D zno i s = true → j = i ||| 2 ^ s → i < j := fun s h1 h2 h3 => by rw [h3]; exact zb_gt i hi s h1 (zmy_not h2).1
  unfold zrk
  by_cases h1 : j < i
  · rw [if_pos h1, if_pos (by omega)]
    exact ⟨fun z => z.elim id (fun ⟨s, a1, a2, a3⟩ => by have := hgt s a1 a2 a3; omega), Or.inl⟩
  · by_cases h2 : j = i
    · subst h2
      rw [if_neg (by omega), if_pos (by omega), ← zrch_eq]
      exact ⟨fun _ => h, fun z => Or.inl z⟩
    · rw [if_neg (by omega), if_neg (by omega), Bool.or_eq_true, Bool.or_eq_true, zrq_iff, zrq_iff]
      constructor
      · rintro ((z | ⟨s, a1, a2, a3, a4, a5⟩) | ⟨s, a1, a2, a3⟩)
        · exact Or.inl z
        · exact Or.inr ⟨s, a1, a2, by omega, a4, a5⟩
        · have hb := zb_orr i hi s a1 (zmy_not a2).1
          rw [← a3] at hb
          exact Or.inr ⟨s, a1, hb.1, by omega, by rw [hb.2]; exact h, by rw [hb.2]; exact a2⟩
      · rintro (z | ⟨s, a1, a2, a3, a4, a5⟩)
        · exact Or.inl (Or.inl z)
        · by_cases e : j - 2 ^ s = i
          · have hb := zb_min j hj s a1 a2
            rw [e] at hb a5
            exact Or.inr ⟨s, a1, a5, hb.2.2.symm⟩
          · exact Or.inl (Or.inr ⟨s, a1, a2, by omega, a4, a5⟩)

set_option maxRecDepth 100000 in
set_option maxHeartbeats 4000000 in
theorem ct_X9_largest {μ : zMem} {D : zBk} (hW : zWF D) (hy : zWy D zno μ) : Ci kX9_largest 8 150 zSX [zP 62] μ (fun r μ' => r = (zbm D 64 : Int) ∧ ∃ h g, μ' = zrow (zrow μ 72 h) 76 g) := by
  refine Ct.of [some (zP 62), none, none, none] rfl (Nat.le_of_ble_eq_true rfl) (by decide +kernel) (fun Γ ad hO hR => ?_)
  have hwn : ∀ s, s < 6 → -6 ≤ zno s ∧ zno s ≤ 30 := fun s _ => by unfold zno; omega
  refine zY.iconst hO dX9_largest_0 ?_
  refine zY.istore1 (zc1_P _) hO dX9_largest_1 ?_
  refine zY.aload_n hO dX9_largest_2 rfl ?_
  refine zY.getR zfl_X9_34 (by decide : 62 < 150) rfl rfl hO dX9_largest_3 ?_
  refine zY.iconst hO dX9_largest_6 ?_
  refine zY.callV1vD (ct_X5_fill zrw_75) (by decide) zcal_X5_fill zml_X9_53 (by decide : 75 < 150) rfl rfl (Nat.le_of_ble_eq_true rfl) rfl ⟨Nat.zero_le _, Nat.zero_le _⟩ hO dX9_largest_7 ?_
  refine zY.aload_n hO dX9_largest_10 rfl ?_
  refine zY.getR zfl_X9_34 (by decide : 62 < 150) rfl rfl hO dX9_largest_11 ?_
  refine zY.iconst hO dX9_largest_14 ?_
  refine zY.iconst hO dX9_largest_15 ?_
  refine zY.callV2vD (ct_putN zrw_75 (j := 0) (by omega)) (by decide) zcal_X5_put zml_X9_67 (by decide : 75 < 150) rfl rfl (Nat.le_of_ble_eq_true rfl) rfl ⟨Nat.zero_le _, Nat.zero_le _⟩ hO dX9_largest_16 ?_
  refine zY.iconst hO dX9_largest_19 ?_
  refine zY.istore2 (zc1_I _) hO dX9_largest_20 ?_
  have L21 : ∀ i : Nat, i ≤ 64 → ∀ (μ1 : zMem) (hq gq : Nat → Int), μ1 = zrow (zrow μ 72 hq) 76 gq → (∀ j, j < 64 → gq j = if zrk D i j = true then 1 else 0) → zY Γ (150, zSX, ad, 0, 0) 21 [some (zP 62), some (zI (zbm D i : Int)), some (zI (i : Int)), none] [] μ1 := by
    refine zdown (64) (fun i hi_i ih21 => ?_)
    intro μ1 hq gq hI hJ
    have hbm := zbm_lt (D := D) i hi_i
    refine zY.iload_n hO dX9_largest_21 rfl ?_
    refine zY.bipush hO dX9_largest_22 (by decide) ?_
    refine zY.icmp_ge (tgt := 101) ⟨by omega, by omega⟩ ⟨by omega, by omega⟩ hO dX9_largest_24 (by decide) (fun c24 => ?_) (fun c24 => ?_)
    ·
      refine zY.iload_n hO dX9_largest_101 rfl ?_
      exact zY.iret rfl ⟨_, rfl, ⟨by rw [show i = 64 by omega], hq, gq, hI⟩⟩ hR hO dX9_largest_102
    ·
      refine zY.aload_n hO dX9_largest_27 rfl ?_
      refine zY.getR zfl_X9_34 (by decide : 62 < 150) rfl rfl hO dX9_largest_28 ?_
      refine zY.iload_n hO dX9_largest_31 rfl ?_
      refine zY.as (b := ((i : Nat) : Int)) (by omega) ?_
      refine zY.callV1iD (ct_atN zrw_75 (j := i) (by omega)) (by decide) zcal_X5_at zml_X9_71 (by decide : 75 < 150) rfl rfl (Nat.le_of_ble_eq_true rfl) rfl ⟨Nat.zero_le _, Nat.zero_le _⟩ hO dX9_largest_32 ?_
      refine zY.as (b := if zrch D i = true then 1 else 0) (by rw [hI, zrow_eq, hJ i (by omega), zrk_self]) ?_
      refine zY.if_ne (tgt := 41) zr_b hO dX9_largest_35 (by decide) (fun c35 => ?_) (fun c35 => ?_)
      ·
        replace c35 := zb1.mp c35
        refine zY.iload_n hO dX9_largest_41 rfl ?_
        refine zY.callS1iD (ct_bitCount (by omega)) (by decide) zcal_J6_bitCount_0f7a4 zml_X9_88 (Nat.le_of_ble_eq_true rfl) rfl ⟨Nat.zero_le _, Nat.zero_le _⟩ hO dX9_largest_42 ?_
        refine zY.iload_n hO dX9_largest_45 rfl ?_
        refine zY.callS1iD (ct_bitCount hbm) (by decide) zcal_J6_bitCount_0f7a4 zml_X9_88 (Nat.le_of_ble_eq_true rfl) rfl ⟨Nat.zero_le _, Nat.zero_le _⟩ hO dX9_largest_46 ?_
        have L54 : ∀ bq : Int, bq = (zbm D (i + 1) : Int) → zY Γ (150, zSX, ad, 0, 0) 54 [some (zP 62), some (zI bq), some (zI (i : Int)), none] [] μ1 := by
          intro bq hbq
          refine zY.aload_n hO dX9_largest_54 rfl ?_
          refine zY.iload_n hO dX9_largest_55 rfl ?_
          refine zY.callV1v (ct_X9_print hW (by rw [hI]; exact hy.r72.r76) (by omega)) (by decide) zcal_X9_print zml_X9_75 (by decide : 62 < 150) rfl rfl (Nat.le_of_ble_eq_true rfl) rfl ⟨Nat.zero_le _, Nat.zero_le _⟩ hO dX9_largest_56 (fun μ2 hq1 => ?_)
          obtain ⟨h2q, hq1, hq2⟩ := hq1
          refine zY.iconst hO dX9_largest_59 ?_
          refine zY.istore3 (zc1_I _) hO dX9_largest_60 ?_
          have L61 : ∀ k : Nat, k ≤ 6 → ∀ (μ3 : zMem) (g3 : Nat → Int), μ3 = zrow (zrow μ 72 h2q) 76 g3 → (∀ j, j < 64 → g3 j = if zmk D i k j = true then 1 else 0) → zY Γ (150, zSX, ad, 0, 0) 61 [some (zP 62), some (zI bq), some (zI (i : Int)), some (zI (k : Int))] [] μ3 := by
            refine zdown (6) (fun k hi_k ih61 => ?_)
            intro μ3 g3 hI3 hJ3
            refine zY.iload_n hO dX9_largest_61 rfl ?_
            refine zY.bipush hO dX9_largest_62 (by decide) ?_
            refine zY.icmp_ge (tgt := 95) ⟨by omega, by omega⟩ ⟨by omega, by omega⟩ hO dX9_largest_64 (by decide) (fun c64 => ?_) (fun c64 => ?_)
            ·
              refine zY.iinc2 ((i + 1 : Nat) : Int) (by omega) (zc1_I _) hO dX9_largest_95 ?_
              refine zY.goto (tgt := 21) hO dX9_largest_98 (by decide) ?_
              refine zY.none3 ?_
              subst hbq
              exact ih21 (by omega) _ h2q g3 hI3 (fun j hj => by rw [hJ3 j hj, show k = 6 by omega, zmk_6 (by omega) hj c35])
            ·
              refine zY.aload_n hO dX9_largest_67 rfl ?_
              refine zY.iload_n hO dX9_largest_68 rfl ?_
              refine zY.iload_n hO dX9_largest_69 rfl ?_
              refine zY.callV2iD (ct_X9_canFollow hW (by rw [hI3]; exact hy.r72.r76) hwn (by omega) (by omega) (fun x hx => by rw [hI3, zrow_ne (by decide), zrow_eq]; exact hq2 x hx)) (by decide) zcal_X9_canFollow zml_X9_82 (by decide : 62 < 150) rfl rfl (Nat.le_of_ble_eq_true rfl) rfl ⟨Nat.zero_le _, Nat.zero_le _⟩ hO dX9_largest_70 ?_
              refine zY.if_eq (tgt := 89) zr_b hO dX9_largest_73 (by decide) (fun c73 => ?_) (fun c73 => ?_)
              ·
                replace c73 := zb0.mp c73
                refine zY.iinc3 ((k + 1 : Nat) : Int) (by omega) (zc1_I _) hO dX9_largest_89 ?_
                refine zY.goto (tgt := 61) hO dX9_largest_92 (by decide) ?_
                exact ih61 (by omega) _ g3 hI3 (fun j hj => by rw [hJ3 j hj, zmk_s, eq_false_of_ne_true c73, Bool.false_and, Bool.or_false])
              ·
                replace c73 := zb1.mp c73
                refine zY.aload_n hO dX9_largest_76 rfl ?_
                refine zY.getR zfl_X9_34 (by decide : 62 < 150) rfl rfl hO dX9_largest_77 ?_
                refine zY.iload_n hO dX9_largest_80 rfl ?_
                refine zY.iconst hO dX9_largest_81 ?_
                refine zY.iload_n hO dX9_largest_82 rfl ?_
                refine zY.ishl (c := ((2 ^ k : Nat) : Int)) (zb_shl k (by omega)) hO dX9_largest_83 ?_
                refine zY.ior (c := ((i ||| 2 ^ k : Nat) : Int)) (zb_or _ (by omega) _ (Nat.pow_lt_pow_right (by omega) (by omega : k < 6))) hO dX9_largest_84 ?_
                refine zY.iconst hO dX9_largest_85 ?_
                refine zY.callV2vD (ct_putN zrw_75 (j := i ||| 2 ^ k) (zb_lt64 _ (by omega) _ (by omega))) (by decide) zcal_X5_put zml_X9_67 (by decide : 75 < 150) rfl rfl (Nat.le_of_ble_eq_true rfl) rfl ⟨Nat.zero_le _, Nat.zero_le _⟩ hO dX9_largest_86 ?_
                refine zY.iinc3 ((k + 1 : Nat) : Int) (by omega) (zc1_I _) hO dX9_largest_89 ?_
                refine zY.goto (tgt := 61) hO dX9_largest_92 (by decide) ?_
                exact ih61 (by omega) _ (fun j => if j = i ||| 2 ^ k then 1 else g3 j) (by rw [hI3, zwr_row]) (fun j hj => by
                  rw [zmk_s, c73, Bool.true_and]
                  by_cases e : j = i ||| 2 ^ k
                  · rw [if_pos e, decide_eq_true e, Bool.or_true, if_pos rfl]
                  · rw [if_neg e, decide_eq_false e, Bool.or_false]
                    exact hJ3 j hj)
          exact L61 0 (by omega) μ2 gq (by rw [hq1, hI]; funext q j; by_cases h1 : q = 76 <;> by_cases h2 : q = 72 <;> simp [zrow, h1, h2]) (fun j hj => by rw [hJ j hj, zmk_0])
        have hp1 := zpc_b i
        have hp2 := zpc_b (zbm D i)
        refine zY.icmp_le (tgt := 54) ⟨by omega, by omega⟩ ⟨by omega, by omega⟩ hO dX9_largest_49 (by decide) (fun c49 => ?_) (fun c49 => ?_)
        ·
          exact L54 _ (by simp only [zbm]; rw [if_neg (fun z => by omega)])
        ·
          refine zY.iload_n hO dX9_largest_52 rfl ?_
          refine zY.istore1 (zc1_P _) hO dX9_largest_53 ?_
          exact L54 _ (by simp only [zbm]; rw [if_pos ⟨c35, by omega⟩])
      ·
        replace c35 := zb0.mp c35
        refine zY.goto (tgt := 95) hO dX9_largest_38 (by decide) ?_
        refine zY.iinc2 ((i + 1 : Nat) : Int) (by omega) (zc1_I _) hO dX9_largest_95 ?_
        refine zY.goto (tgt := 21) hO dX9_largest_98 (by decide) ?_
        have hin := ih21 (by omega) _ hq gq hI (fun j hj => by rw [hJ j hj, zrk_no (eq_false_of_ne_true c35)])
        rw [show zbm D (i + 1) = zbm D i from by simp only [zbm]; rw [if_neg (fun z => c35 z.1)]] at hin
        exact hin
  exact L21 0 (by omega) _ (μ 72) (fun j => if j = 0 then 1 else if j < 64 then 0 else μ 76 j) (by rw [zrow_self (q := 72) (fun _ => rfl), zwr_row]) (fun j hj => by rw [zrk_0]; by_cases e : j = 0 <;> simp [e, hj])

theorem zthf_bit (f : Nat → Int) {s : Nat} (hs : s < 6) : ∀ k, k ≤ 6 → (zth f k).testBit s = (decide (s < k) && decide (0 < f s))
  | 0, _ => by simp [zth]
  | k + 1, hk => by
    have ih := zthf_bit f hs k (by omega)
    have h64 := zth_64 f (k := k) (by omega)
    simp only [zth]
    split
    next h =>
      rw [zb_orj _ h64 _ (by omega) _ hs, ih]
      by_cases e : s = k
      · subst e; simp [h]
      · by_cases e2 : s < k
        · have : s < k + 1 := by omega
          simp [e, e2, this]
        · have : ¬ s < k + 1 := by omega
          simp [e, e2, this]
    next h =>
      rw [ih]
      by_cases e : s = k
      · subst e; simp [h]
      · by_cases e2 : s < k
        · have : s < k + 1 := by omega
          simp [e2, this]
        · have : ¬ s < k + 1 := by omega
          simp [e2, this]
theorem zthD_bit {D : zBk} {s : Nat} (hs : s < 6) : (zthD D).testBit s = decide (0 < D 4 s) := by
  unfold zthD
  rw [zthf_bit _ hs 6 (Nat.le_refl 6)]
  simp [hs]
theorem zpc_or : ∀ a : Nat, a < 64 → ∀ s : Nat, s < 6 → a.testBit s = false → zpc (a ||| 2 ^ s) = zpc a + 1 := by decide +kernel
/-- no more orders than there are rows of what is left -/
def zfb (j : Nat) : Int := [720, 120, 24, 6, 2, 1, 1].getD (zpc j).toNat 0
theorem zfb_b : ∀ a : Nat, a < 64 → 1 ≤ zfb a ∧ zfb a ≤ 720 := by decide +kernel
theorem zfb_s : ∀ a : Nat, a < 64 → zsum (fun s => if a.testBit s = true then 0 else zfb (a ||| 2 ^ s)) 6 ≤ zfb a := by decide +kernel
theorem zsum_le {f f2 : Nat → Int} : ∀ k, (∀ x, x < k → 0 ≤ f x ∧ f x ≤ f2 x) → 0 ≤ zsum f k ∧ zsum f k ≤ zsum f2 k
  | 0, _ => by simp [zsum]
  | k + 1, h => by
    have h1 := zsum_le k (fun x hx => h x (by omega))
    have h2 := h k (by omega)
    simp only [zsum]
    omega
theorem zwv_b {D : zBk} {want : Nat → Int} {a b : Int} {t : Nat → Int} {set : Nat} (hs : set < 64) (ht : ∀ j, j < 64 → 0 ≤ t j ∧ t j ≤ zfb j) : 0 ≤ zwv D want a b t set ∧ zwv D want a b t set ≤ zfb set := by
  have hb := zfb_b set hs
  unfold zwv
  split
  · omega
  · split
    · have h1 := zsum_le (f := fun s => if zmy D want set s = true ∧ ¬ ((s : Int) = b ∧ set.testBit a.toNat = false) then t (set ||| 2 ^ s) else 0) (f2 := fun s => if set.testBit s = true then 0 else zfb (set ||| 2 ^ s)) 6 (fun x hx => by
        show 0 ≤ (if zmy D want set x = true ∧ ¬ ((x : Int) = b ∧ set.testBit a.toNat = false) then t (set ||| 2 ^ x) else 0) ∧ (if zmy D want set x = true ∧ ¬ ((x : Int) = b ∧ set.testBit a.toNat = false) then t (set ||| 2 ^ x) else 0) ≤ (if set.testBit x = true then 0 else zfb (set ||| 2 ^ x))
        have h64 := zb_lt64 set hs x hx
        have h2 := ht _ h64
        have h3 := zfb_b _ h64
        by_cases hm : zmy D want set x = true ∧ ¬ ((x : Int) = b ∧ set.testBit a.toNat = false)
        · rw [if_pos hm]
          have hn := (zmy_not hm.1).1
          rw [if_neg (by rw [hn]; decide)]
          exact h2
        · rw [if_neg hm]
          split <;> omega)
      have h2 := zfb_s set hs
      exact ⟨h1.1, Int.le_trans h1.2 h2⟩
    · omega
theorem zwt_bb {D : zBk} {want : Nat → Int} {a b : Int} : ∀ k, k ≤ 64 → ∀ j, j < 64 → 0 ≤ zwt D want a b k j ∧ zwt D want a b k j ≤ zfb j
  | 0, _, j, hj => by have := zfb_b j hj; simp only [zwt]; omega
  | k + 1, hk, j, hj => by
    simp only [zwt]
    by_cases e : j = 63 - k
    · rw [if_pos e, e]
      exact zwv_b (by omega) (fun j' h' => zwt_bb k (by omega) j' h')
    · rw [if_neg e]
      exact zwt_bb k (by omega) j hj
theorem zwt_o {D : zBk} {want : Nat → Int} {a b : Int} : ∀ k j, 64 ≤ j → zwt D want a b k j = 0
  | 0, _, _ => rfl
  | k + 1, j, hj => by
    simp only [zwt]
    rw [if_neg (by omega)]
    exact zwt_o k j hj
theorem zwt_b {D : zBk} {want : Nat → Int} {a b : Int} (k j : Nat) (hk : k ≤ 64) : 0 ≤ zwt D want a b k j ∧ zwt D want a b k j ≤ 720 := by
  by_cases hj : j < 64
  · have h1 := zwt_bb (D := D) (want := want) (a := a) (b := b) k hk j hj
    have h2 := zfb_b j hj
    omega
  · rw [zwt_o k j (by omega)]
    omega
theorem zwt_zr {D : zBk} {want : Nat → Int} {a b : Int} (k j : Nat) (hk : k ≤ 64 := by omega) : zr (zwt D want a b k j) := by
  have := zwt_b (D := D) (want := want) (a := a) (b := b) k j hk
  exact ⟨by omega, by omega⟩

set_option maxRecDepth 100000 in
set_option maxHeartbeats 4000000 in
theorem ct_X10_orders {μ : zMem} {D : zBk} {K0 K1 : Option zBk} (hX : zRX D K0 K1 μ)  : Ci kX10_orders 9 150 zSX [zP 0] μ (fun a μ' => a = zA_orders D ∧ zSame 62 76 μ μ') := by
  refine Ct.of [some (zP 0)] rfl (Nat.le_of_ble_eq_true rfl) (by decide +kernel) (fun Γ ad hO hR => ?_)
  refine zY.aload_n hO dX10_orders_0 rfl ?_
  refine zY.getR zfl_X10_45 (by decide : 0 < 150) rfl rfl hO dX10_orders_1 ?_
  refine zY.aload_n hO dX10_orders_4 rfl ?_
  refine zY.getR zfl_X10_10 (by decide : 0 < 150) rfl rfl hO dX10_orders_5 ?_
  refine zY.callV1v (ct_X9_load hX) (by decide) zcal_X9_load zml_X10_147 (by decide : 62 < 150) rfl rfl (Nat.le_of_ble_eq_true rfl) rfl ⟨Nat.zero_le _, Nat.zero_le _⟩ hO dX10_orders_8 (fun μ1 hq1 => ?_)
  obtain ⟨hl1, hl2, hl3, hl4⟩ := hq1
  refine zY.aload_n hO dX10_orders_11 rfl ?_
  refine zY.getR zfl_X10_45 (by decide : 0 < 150) rfl rfl hO dX10_orders_12 ?_
  refine zY.callV0v (ct_X9_wantNoneUpsideDown) (by decide) zcal_X9_wantNoneUpsideDown zml_X10_150 (by decide : 62 < 150) rfl rfl (Nat.le_of_ble_eq_true rfl) rfl ⟨Nat.zero_le _, Nat.zero_le _⟩ hO dX10_orders_15 (fun μ2 hq2 => ?_)
  obtain ⟨f2, hq2, hq3⟩ := hq2
  have hy2 : zWy D zno μ2 := ⟨hl1.row (fun q h1 h2 => by rw [hq2, zrow_ne (by omega)]), by rw [hq2, zrow_ne (by decide)]; exact hl2, by rw [hq2, zrow_ne (by decide)]; exact hl3, by rw [hq2, zrow_eq]; exact hq3⟩
  have hsm2 : zSame 62 76 μ μ2 := by rw [hq2]; exact hl4.row (by decide) (by decide)
  refine zY.aload_n hO dX10_orders_18 rfl ?_
  refine zY.getR zfl_X10_45 (by decide : 0 < 150) rfl rfl hO dX10_orders_19 ?_
  refine zY.bipush hO dX10_orders_22 (by decide) ?_
  refine zY.bipush hO dX10_orders_24 (by decide) ?_
  refine zY.callV2i (ct_X9_count hX.1 hy2 (fun s _ => by unfold zno; omega) (Or.inl ⟨rfl, rfl⟩)) (by decide) zcal_X9_count zml_X10_153 (by decide : 62 < 150) rfl rfl (Nat.le_of_ble_eq_true rfl) rfl ⟨Nat.zero_le _, Nat.zero_le _⟩ hO dX10_orders_26 (fun aq μ3 hq4 => ?_)
  obtain ⟨rfl, h3q, g3q, hq5, hq6⟩ := hq4
  exact zY.iret rfl ⟨_, rfl, ⟨rfl, by rw [hq5]; exact (hsm2.row (by decide) (by decide)).row (by decide) (by decide)⟩⟩ hR hO dX10_orders_29

set_option maxRecDepth 100000 in
set_option maxHeartbeats 4000000 in
theorem ct_X10_first {μ : zMem} {D : zBk} {K0 K1 : Option zBk} (hX : zRX D K0 K1 μ) {x : Int} (hx : zr x) : Ci kX10_first 9 150 zSX [zP 0, zI x] μ (fun a μ' => a = zA_first D x ∧ zSame 62 76 μ μ') := by
  refine Ct.of [some (zP 0), some (zI x)] rfl (Nat.le_of_ble_eq_true rfl) (by decide +kernel) (fun Γ ad hO hR => ?_)
  refine zY.aload_n hO dX10_first_0 rfl ?_
  refine zY.getR zfl_X10_45 (by decide : 0 < 150) rfl rfl hO dX10_first_1 ?_
  refine zY.aload_n hO dX10_first_4 rfl ?_
  refine zY.getR zfl_X10_10 (by decide : 0 < 150) rfl rfl hO dX10_first_5 ?_
  refine zY.callV1v (ct_X9_load hX) (by decide) zcal_X9_load zml_X10_147 (by decide : 62 < 150) rfl rfl (Nat.le_of_ble_eq_true rfl) rfl ⟨Nat.zero_le _, Nat.zero_le _⟩ hO dX10_first_8 (fun μ1 hq1 => ?_)
  obtain ⟨hl1, hl2, hl3, hl4⟩ := hq1
  refine zY.aload_n hO dX10_first_11 rfl ?_
  refine zY.getR zfl_X10_45 (by decide : 0 < 150) rfl rfl hO dX10_first_12 ?_
  refine zY.callV0v (ct_X9_wantNoneUpsideDown) (by decide) zcal_X9_wantNoneUpsideDown zml_X10_150 (by decide : 62 < 150) rfl rfl (Nat.le_of_ble_eq_true rfl) rfl ⟨Nat.zero_le _, Nat.zero_le _⟩ hO dX10_first_15 (fun μ2 hq2 => ?_)
  obtain ⟨f2, hq2, hq3⟩ := hq2
  have hy2 : zWy D zno μ2 := ⟨hl1.row (fun q h1 h2 => by rw [hq2, zrow_ne (by omega)]), by rw [hq2, zrow_ne (by decide)]; exact hl2, by rw [hq2, zrow_ne (by decide)]; exact hl3, by rw [hq2, zrow_eq]; exact hq3⟩
  have hsm2 : zSame 62 76 μ μ2 := by rw [hq2]; exact hl4.row (by decide) (by decide)
  refine zY.aload_n hO dX10_first_18 rfl ?_
  refine zY.getR zfl_X10_45 (by decide : 0 < 150) rfl rfl hO dX10_first_19 ?_
  refine zY.bipush hO dX10_first_22 (by decide) ?_
  refine zY.bipush hO dX10_first_24 (by decide) ?_
  refine zY.callV2i (ct_X9_count hX.1 hy2 (fun s _ => by unfold zno; omega) (Or.inl ⟨rfl, rfl⟩)) (by decide) zcal_X9_count zml_X10_153 (by decide : 62 < 150) rfl rfl (Nat.le_of_ble_eq_true rfl) rfl ⟨Nat.zero_le _, Nat.zero_le _⟩ hO dX10_first_26 (fun aq μ3 hq4 => ?_)
  obtain ⟨rfl, h3q, g3q, hq5, hq6⟩ := hq4
  refine zY.pop rfl hO dX10_first_29 ?_
  refine zY.aload_n hO dX10_first_30 rfl ?_
  refine zY.getR zfl_X10_45 (by decide : 0 < 150) rfl rfl hO dX10_first_31 ?_
  refine zY.iload_n hO dX10_first_34 rfl ?_
  refine zY.callV1i (ct_X9_leastAt (t := zwt D zno (-6) (-6) 64) hX.1 (by rw [hq5]; exact hy2.r72.r76) (fun s _ => by unfold zno; omega) (fun j hj => by rw [hq5, zrow_eq]; exact hq6 j hj) (fun j hj => zwt_zr _ j) hx) (by decide) zcal_X9_leastAt zml_X10_155 (by decide : 62 < 150) rfl rfl (Nat.le_of_ble_eq_true rfl) rfl ⟨Nat.zero_le _, Nat.zero_le _⟩ hO dX10_first_35 (fun bq μ4 hq7 => ?_)
  obtain ⟨rfl, h4q, hq8⟩ := hq7
  exact zY.iret rfl ⟨_, rfl, ⟨rfl, by rw [hq8, hq5]; exact ((hsm2.row (by decide) (by decide)).row (by decide) (by decide)).row (by decide) (by decide)⟩⟩ hR hO dX10_first_38

set_option maxRecDepth 100000 in
set_option maxHeartbeats 4000000 in
theorem ct_X10_most {μ : zMem} {D : zBk} {K0 K1 : Option zBk} (hX : zRX D K0 K1 μ) {x : Int} (hx : zr x) : Ci kX10_most 9 150 zSX [zP 0, zI x] μ (fun a μ' => a = zA_most D x ∧ zSame 62 76 μ μ') := by
  refine Ct.of [some (zP 0), some (zI x), none] rfl (Nat.le_of_ble_eq_true rfl) (by decide +kernel) (fun Γ ad hO hR => ?_)
  refine zY.iload_n hO dX10_most_0 rfl ?_
  refine zY.iconst hO dX10_most_1 ?_
  refine zY.iconst hO dX10_most_2 ?_
  refine zY.callS3iD (ct_X10_within hx ⟨by omega, by omega⟩ ⟨by omega, by omega⟩) (by decide) zcal_X10_within zml_X10_70 (Nat.le_of_ble_eq_true rfl) rfl ⟨Nat.zero_le _, Nat.zero_le _⟩ hO dX10_most_3 ?_
  refine zY.if_ne (tgt := 12) zr_b hO dX10_most_6 (by decide) (fun c6 => ?_) (fun c6 => ?_)
  ·
    replace c6 := zb1.mp c6
    refine zY.aload_n hO dX10_most_12 rfl ?_
    refine zY.getR zfl_X10_45 (by decide : 0 < 150) rfl rfl hO dX10_most_13 ?_
    refine zY.aload_n hO dX10_most_16 rfl ?_
    refine zY.getR zfl_X10_10 (by decide : 0 < 150) rfl rfl hO dX10_most_17 ?_
    refine zY.callV1v (ct_X9_load hX) (by decide) zcal_X9_load zml_X10_147 (by decide : 62 < 150) rfl rfl (Nat.le_of_ble_eq_true rfl) rfl ⟨Nat.zero_le _, Nat.zero_le _⟩ hO dX10_most_20 (fun μ1 hq1 => ?_)
    obtain ⟨hl1, hl2, hl3, hl4⟩ := hq1
    refine zY.aload_n hO dX10_most_23 rfl ?_
    refine zY.getR zfl_X10_45 (by decide : 0 < 150) rfl rfl hO dX10_most_24 ?_
    refine zY.callV0v (ct_X9_wantNoneUpsideDown) (by decide) zcal_X9_wantNoneUpsideDown zml_X10_150 (by decide : 62 < 150) rfl rfl (Nat.le_of_ble_eq_true rfl) rfl ⟨Nat.zero_le _, Nat.zero_le _⟩ hO dX10_most_27 (fun μ2 hq2 => ?_)
    obtain ⟨f2, hq2, hq3⟩ := hq2
    have hy2 : zWy D zno μ2 := ⟨hl1.row (fun q h1 h2 => by rw [hq2, zrow_ne (by omega)]), by rw [hq2, zrow_ne (by decide)]; exact hl2, by rw [hq2, zrow_ne (by decide)]; exact hl3, by rw [hq2, zrow_eq]; exact hq3⟩
    have hsm2 : zSame 62 76 μ μ2 := by rw [hq2]; exact hl4.row (by decide) (by decide)
    refine zY.aload_n hO dX10_most_30 rfl ?_
    refine zY.getR zfl_X10_45 (by decide : 0 < 150) rfl rfl hO dX10_most_31 ?_
    refine zY.callV0i (ct_X9_largest hX.1 hy2) (by decide) zcal_X9_largest zml_X10_158 (by decide : 62 < 150) rfl rfl (Nat.le_of_ble_eq_true rfl) rfl ⟨Nat.zero_le _, Nat.zero_le _⟩ hO dX10_most_34 (fun aq μ3 hq4 => ?_)
    obtain ⟨rfl, h3q, g3q, hq5⟩ := hq4
    have hbm := zbm_lt (D := D) 64 (by omega)
    refine zY.istore2 (zc1_I _) hO dX10_most_37 ?_
    refine zY.iload_n hO dX10_most_38 rfl ?_
    refine zY.if_ne (tgt := 49) hx hO dX10_most_39 (by decide) (fun c39 => ?_) (fun c39 => ?_)
    ·
      refine zY.iload_n hO dX10_most_49 rfl ?_
      exact zY.iret rfl ⟨_, rfl, ⟨by unfold zA_most; rw [if_pos c6, if_neg c39], by rw [hq5]; exact (hsm2.row (by decide) (by decide)).row (by decide) (by decide)⟩⟩ hR hO dX10_most_50
    ·
      refine zY.iload_n hO dX10_most_42 rfl ?_
      refine zY.callS1iD (ct_bitCount hbm) (by decide) zcal_J6_bitCount_0f7a4 zml_X10_161 (Nat.le_of_ble_eq_true rfl) rfl ⟨Nat.zero_le _, Nat.zero_le _⟩ hO dX10_most_43 ?_
      refine zY.goto (tgt := 50) hO dX10_most_46 (by decide) ?_
      exact zY.iret rfl ⟨_, rfl, ⟨by unfold zA_most; rw [if_pos c6, if_pos c39], by rw [hq5]; exact (hsm2.row (by decide) (by decide)).row (by decide) (by decide)⟩⟩ hR hO dX10_most_50
  ·
    replace c6 := zb0.mp c6
    refine zY.bipush hO dX10_most_9 (by decide) ?_
    exact zY.iret rfl ⟨_, rfl, ⟨by unfold zA_most; rw [if_neg c6], zSame.rfl'⟩⟩ hR hO dX10_most_11

set_option maxRecDepth 100000 in
set_option maxHeartbeats 4000000 in
theorem ct_X10_fits {μ : zMem} {D : zBk} {K0 K1 : Option zBk} (hX : zRX D K0 K1 μ)  : Ci kX10_fits 9 150 zSX [zP 0] μ (fun a μ' => a = zA_fits D ∧ zWy D (D 7) μ' ∧ zSame 62 76 μ μ') := by
  refine Ct.of [some (zP 0)] rfl (Nat.le_of_ble_eq_true rfl) (by decide +kernel) (fun Γ ad hO hR => ?_)
  refine zY.aload_n hO dX10_fits_0 rfl ?_
  refine zY.getR zfl_X10_45 (by decide : 0 < 150) rfl rfl hO dX10_fits_1 ?_
  refine zY.aload_n hO dX10_fits_4 rfl ?_
  refine zY.getR zfl_X10_10 (by decide : 0 < 150) rfl rfl hO dX10_fits_5 ?_
  refine zY.callV1v (ct_X9_load hX) (by decide) zcal_X9_load zml_X10_147 (by decide : 62 < 150) rfl rfl (Nat.le_of_ble_eq_true rfl) rfl ⟨Nat.zero_le _, Nat.zero_le _⟩ hO dX10_fits_8 (fun μ1 hq1 => ?_)
  obtain ⟨hl1, hl2, hl3, hl4⟩ := hq1
  refine zY.aload_n hO dX10_fits_11 rfl ?_
  refine zY.getR zfl_X10_45 (by decide : 0 < 150) rfl rfl hO dX10_fits_12 ?_
  refine zY.aload_n hO dX10_fits_15 rfl ?_
  refine zY.getR zfl_X10_10 (by decide : 0 < 150) rfl rfl hO dX10_fits_16 ?_
  refine zY.callV1v (ct_X9_wantAsSeen (hl4.shp hX.2.1 (by decide))) (by decide) zcal_X9_wantAsSeen zml_X10_194 (by decide : 62 < 150) rfl rfl (Nat.le_of_ble_eq_true rfl) rfl ⟨Nat.zero_le _, Nat.zero_le _⟩ hO dX10_fits_19 (fun μ2 hq2 => ?_)
  obtain ⟨f2, hq2, hq3⟩ := hq2
  have hy2 : zWy D (D 7) μ2 := ⟨hl1.row (fun q h1 h2 => by rw [hq2, zrow_ne (by omega)]), by rw [hq2, zrow_ne (by decide)]; exact hl2, by rw [hq2, zrow_ne (by decide)]; exact hl3, by rw [hq2, zrow_eq]; exact hq3⟩
  have hsm2 : zSame 62 76 μ μ2 := by rw [hq2]; exact hl4.row (by decide) (by decide)
  refine zY.aload_n hO dX10_fits_22 rfl ?_
  refine zY.getR zfl_X10_45 (by decide : 0 < 150) rfl rfl hO dX10_fits_23 ?_
  refine zY.bipush hO dX10_fits_26 (by decide) ?_
  refine zY.bipush hO dX10_fits_28 (by decide) ?_
  refine zY.callV2i (ct_X9_count hX.1 hy2 (fun s hs => by have := hX.1.2.1 s hs; omega) (Or.inl ⟨rfl, rfl⟩)) (by decide) zcal_X9_count zml_X10_153 (by decide : 62 < 150) rfl rfl (Nat.le_of_ble_eq_true rfl) rfl ⟨Nat.zero_le _, Nat.zero_le _⟩ hO dX10_fits_30 (fun aq μ3 hq4 => ?_)
  obtain ⟨rfl, h3q, g3q, hq5, hq6⟩ := hq4
  exact zY.iret rfl ⟨_, rfl, ⟨rfl, by rw [hq5]; exact hy2.r72.r76, by rw [hq5]; exact (hsm2.row (by decide) (by decide)).row (by decide) (by decide)⟩⟩ hR hO dX10_fits_33

set_option maxRecDepth 100000 in
set_option maxHeartbeats 4000000 in
theorem ct_X10_isThere {μ : zMem} {D : zBk} {K0 K1 : Option zBk} (hX : zRX D K0 K1 μ) {x : Int} (hx : zr x) : Ci kX10_isThere 5 150 zSX [zP 0, zI x] μ (fun a μ' => a = (if 0 ≤ x ∧ x ≤ 5 ∧ 0 < D 4 x.toNat then 1 else 0) ∧ μ' = μ) := by
  refine Ct.of [some (zP 0), some (zI x)] rfl (Nat.le_of_ble_eq_true rfl) (by decide +kernel) (fun Γ ad hO hR => ?_)
  refine zY.iload_n hO dX10_isThere_0 rfl ?_
  refine zY.callS1iD (ct_X10_isSheet hx) (by decide) zcal_X10_isSheet zml_X10_96 (Nat.le_of_ble_eq_true rfl) rfl ⟨Nat.zero_le _, Nat.zero_le _⟩ hO dX10_isThere_1 ?_
  refine zY.if_eq (tgt := 25) zr_b hO dX10_isThere_4 (by decide) (fun c4 => ?_) (fun c4 => ?_)
  ·
    replace c4 := zb0.mp c4
    refine zY.iconst hO dX10_isThere_25 ?_
    exact zY.zret (by decide) rfl ⟨_, rfl, ⟨by rw [if_neg (fun z => c4 ⟨z.1, z.2.1⟩)], rfl⟩⟩ hR hO dX10_isThere_26
  ·
    replace c4 := zb1.mp c4
    obtain ⟨xq, hxq⟩ : ∃ xq : Nat, x = (xq : Int) := ⟨x.toNat, by omega⟩
    refine zY.aload_n hO dX10_isThere_7 rfl ?_
    refine zY.getR zfl_X10_10 (by decide : 0 < 150) rfl rfl hO dX10_isThere_8 ?_
    refine zY.callV0iD (ct_X6_there (fun s hs => by have h1 := (hX.2.1.2.1 s hs).1; have h2 := hX.1.2.1 s hs; exact ⟨by rw [show (μ 15 s) = D 4 s from h1]; omega, by rw [show (μ 15 s) = D 4 s from h1]; omega⟩)) (by decide) zcal_X6_there zml_X10_218 (by decide : 1 < 150) rfl rfl (Nat.le_of_ble_eq_true rfl) rfl ⟨Nat.zero_le _, Nat.zero_le _⟩ hO dX10_isThere_11 ?_
    refine zY.as (b := (zthD D : Int)) (by rw [zth_congr (fun s hs => (hX.2.1.2.1 s hs).1)]; rfl) ?_
    refine zY.iload_n hO dX10_isThere_14 rfl ?_
    refine zY.as hxq ?_
    refine zY.callS2iD (ct_X10_has (zthD_64 D) (by omega)) (by decide) zcal_X10_has zml_X10_232 (Nat.le_of_ble_eq_true rfl) rfl ⟨Nat.zero_le _, Nat.zero_le _⟩ hO dX10_isThere_15 ?_
    refine zY.if_eq (tgt := 25) zr_b hO dX10_isThere_18 (by decide) (fun c18 => ?_) (fun c18 => ?_)
    ·
      replace c18 := zb0.mp c18
      refine zY.iconst hO dX10_isThere_25 ?_
      exact zY.zret (by decide) rfl ⟨_, rfl, ⟨by rw [if_neg (fun z => c18 (by rw [zthD_bit (by omega)]; have hz := z.2.2; rw [hxq, Int.toNat_natCast] at hz; exact decide_eq_true hz))], rfl⟩⟩ hR hO dX10_isThere_26
    ·
      replace c18 := zb1.mp c18
      refine zY.iconst hO dX10_isThere_21 ?_
      refine zY.goto (tgt := 26) hO dX10_isThere_22 (by decide) ?_
      exact zY.zret (by decide) rfl ⟨_, rfl, ⟨by rw [if_pos ⟨c4.1, c4.2, by rw [zthD_bit (by omega)] at c18; rw [hxq, Int.toNat_natCast]; exact of_decide_eq_true c18⟩], rfl⟩⟩ hR hO dX10_isThere_26

set_option maxRecDepth 100000 in
set_option maxHeartbeats 4000000 in
theorem ct_X10_ahead {μ : zMem} {D : zBk} {K0 K1 : Option zBk} (hX : zRX D K0 K1 μ) {x y : Int} (hx : zr x) (hy : zr y) : Ci kX10_ahead 10 150 zSX [zP 0, zI x, zI y] μ (fun a μ' => a = zA_ahead D x y ∧ zSame 62 76 μ μ') := by
  refine Ct.of [some (zP 0), some (zI x), some (zI y), none, none] rfl (Nat.le_of_ble_eq_true rfl) (by decide +kernel) (fun Γ ad hO hR => ?_)
  refine zY.aload_n hO dX10_ahead_0 rfl ?_
  refine zY.iload_n hO dX10_ahead_1 rfl ?_
  refine zY.callV1iD (ct_X10_isThere hX hx) (by decide) zcal_X10_isThere zml_X10_197 (by decide : 0 < 150) rfl rfl (Nat.le_of_ble_eq_true rfl) rfl ⟨Nat.zero_le _, Nat.zero_le _⟩ hO dX10_ahead_2 ?_
  refine zY.if_eq (tgt := 21) zr_b hO dX10_ahead_5 (by decide) (fun c5 => ?_) (fun c5 => ?_)
  ·
    replace c5 := zb0.mp c5
    refine zY.iconst hO dX10_ahead_21 ?_
    exact zY.iret rfl ⟨_, rfl, ⟨by unfold zA_ahead; rw [if_neg (fun z => c5 z.1)], zSame.rfl'⟩⟩ hR hO dX10_ahead_22
  ·
    replace c5 := zb1.mp c5
    refine zY.aload_n hO dX10_ahead_8 rfl ?_
    refine zY.iload_n hO dX10_ahead_9 rfl ?_
    refine zY.callV1iD (ct_X10_isThere hX hy) (by decide) zcal_X10_isThere zml_X10_197 (by decide : 0 < 150) rfl rfl (Nat.le_of_ble_eq_true rfl) rfl ⟨Nat.zero_le _, Nat.zero_le _⟩ hO dX10_ahead_10 ?_
    refine zY.if_eq (tgt := 21) zr_b hO dX10_ahead_13 (by decide) (fun c13 => ?_) (fun c13 => ?_)
    ·
      replace c13 := zb0.mp c13
      refine zY.iconst hO dX10_ahead_21 ?_
      exact zY.iret rfl ⟨_, rfl, ⟨by unfold zA_ahead; rw [if_neg (fun z => c13 z.2.1)], zSame.rfl'⟩⟩ hR hO dX10_ahead_22
    ·
      replace c13 := zb1.mp c13
      refine zY.iload_n hO dX10_ahead_16 rfl ?_
      refine zY.iload_n hO dX10_ahead_17 rfl ?_
      refine zY.icmp_ne (tgt := 23) hx hy hO dX10_ahead_18 (by decide) (fun c18 => ?_) (fun c18 => ?_)
      ·
        refine zY.aload_n hO dX10_ahead_23 rfl ?_
        refine zY.getR zfl_X10_45 (by decide : 0 < 150) rfl rfl hO dX10_ahead_24 ?_
        refine zY.aload_n hO dX10_ahead_27 rfl ?_
        refine zY.getR zfl_X10_10 (by decide : 0 < 150) rfl rfl hO dX10_ahead_28 ?_
        refine zY.callV1v (ct_X9_load hX) (by decide) zcal_X9_load zml_X10_147 (by decide : 62 < 150) rfl rfl (Nat.le_of_ble_eq_true rfl) rfl ⟨Nat.zero_le _, Nat.zero_le _⟩ hO dX10_ahead_31 (fun μ1 hq1 => ?_)
        obtain ⟨hl1, hl2, hl3, hl4⟩ := hq1
        refine zY.aload_n hO dX10_ahead_34 rfl ?_
        refine zY.getR zfl_X10_45 (by decide : 0 < 150) rfl rfl hO dX10_ahead_35 ?_
        refine zY.aload_n hO dX10_ahead_38 rfl ?_
        refine zY.getR zfl_X10_10 (by decide : 0 < 150) rfl rfl hO dX10_ahead_39 ?_
        refine zY.callV1v (ct_X9_wantAsSeen (hl4.shp hX.2.1 (by decide))) (by decide) zcal_X9_wantAsSeen zml_X10_194 (by decide : 62 < 150) rfl rfl (Nat.le_of_ble_eq_true rfl) rfl ⟨Nat.zero_le _, Nat.zero_le _⟩ hO dX10_ahead_42 (fun μ2 hq2 => ?_)
        obtain ⟨f2, hq2, hq3⟩ := hq2
        have hy2 : zWy D (D 7) μ2 := ⟨hl1.row (fun q h1 h2 => by rw [hq2, zrow_ne (by omega)]), by rw [hq2, zrow_ne (by decide)]; exact hl2, by rw [hq2, zrow_ne (by decide)]; exact hl3, by rw [hq2, zrow_eq]; exact hq3⟩
        have hsm2 : zSame 62 76 μ μ2 := by rw [hq2]; exact hl4.row (by decide) (by decide)
        refine zY.aload_n hO dX10_ahead_45 rfl ?_
        refine zY.getR zfl_X10_45 (by decide : 0 < 150) rfl rfl hO dX10_ahead_46 ?_
        refine zY.bipush hO dX10_ahead_49 (by decide) ?_
        refine zY.bipush hO dX10_ahead_51 (by decide) ?_
        refine zY.callV2i (ct_X9_count hX.1 hy2 (fun s hs => by have := hX.1.2.1 s hs; omega) (Or.inl ⟨rfl, rfl⟩)) (by decide) zcal_X9_count zml_X10_153 (by decide : 62 < 150) rfl rfl (Nat.le_of_ble_eq_true rfl) rfl ⟨Nat.zero_le _, Nat.zero_le _⟩ hO dX10_ahead_53 (fun aq μ3 hq4 => ?_)
        obtain ⟨rfl, h3q, g3q, hq5, hq6⟩ := hq4
        have hq2 : zWy D (D 7) μ3 := by rw [hq5]; exact hy2.r72.r76
        have hq3 : zSame 62 76 μ μ3 := by rw [hq5]; exact (hsm2.row (by decide) (by decide)).row (by decide) (by decide)
        refine zY.as (b := zA_fits D) rfl ?_
        have hfz : zr (zA_fits D) := zwt_zr (D := D) (want := D 7) (a := -6) (b := -6) 64 0
        refine zY.istore3 (zc1_I _) hO dX10_ahead_56 ?_
        refine zY.iload_n hO dX10_ahead_57 rfl ?_
        refine zY.if_ne (tgt := 64) hfz hO dX10_ahead_58 (by decide) (fun c58 => ?_) (fun c58 => ?_)
        ·
          refine zY.aload_n hO dX10_ahead_64 rfl ?_
          refine zY.getR zfl_X10_45 (by decide : 0 < 150) rfl rfl hO dX10_ahead_65 ?_
          refine zY.iload_n hO dX10_ahead_68 rfl ?_
          refine zY.iload_n hO dX10_ahead_69 rfl ?_
          refine zY.callV2i (ct_X9_count hX.1 hq2 (fun s hs => by have := hX.1.2.1 s hs; omega) (Or.inr ⟨c5.1, c5.2.1, c13.1, c13.2.1⟩)) (by decide) zcal_X9_count zml_X10_153 (by decide : 62 < 150) rfl rfl (Nat.le_of_ble_eq_true rfl) rfl ⟨Nat.zero_le _, Nat.zero_le _⟩ hO dX10_ahead_70 (fun bq μ5 hq7 => ?_)
          obtain ⟨rfl, h5q, g5q, hq8, hq9⟩ := hq7
          have hfz2 : zr (zWay D (D 7) x y) := zwt_zr (D := D) (want := D 7) (a := x) (b := y) 64 0
          have hsm3 : zSame 62 76 μ μ5 := by rw [hq8]; exact (hq3.row (by decide) (by decide)).row (by decide) (by decide)
          refine zY.istore4 (zc1_I _) hO dX10_ahead_73 ?_
          refine zY.iload hO dX10_ahead_75 rfl ?_
          refine zY.iload_n hO dX10_ahead_77 rfl ?_
          refine zY.icmp_ne (tgt := 83) hfz2 hfz hO dX10_ahead_78 (by decide) (fun c78 => ?_) (fun c78 => ?_)
          ·
            refine zY.iload hO dX10_ahead_83 rfl ?_
            refine zY.if_ne (tgt := 92) hfz2 hO dX10_ahead_85 (by decide) (fun c85 => ?_) (fun c85 => ?_)
            ·
              refine zY.iconst hO dX10_ahead_92 ?_
              exact zY.iret rfl ⟨_, rfl, ⟨by unfold zA_ahead; rw [if_pos ⟨c5, c13, c18⟩, if_neg c58, if_neg c78, if_neg c85], hsm3⟩⟩ hR hO dX10_ahead_93
            ·
              refine zY.iconst hO dX10_ahead_88 ?_
              refine zY.goto (tgt := 93) hO dX10_ahead_89 (by decide) ?_
              exact zY.iret rfl ⟨_, rfl, ⟨by unfold zA_ahead; rw [if_pos ⟨c5, c13, c18⟩, if_neg c58, if_neg c78, if_pos c85], hsm3⟩⟩ hR hO dX10_ahead_93
          ·
            refine zY.iconst hO dX10_ahead_81 ?_
            exact zY.iret rfl ⟨_, rfl, ⟨by unfold zA_ahead; rw [if_pos ⟨c5, c13, c18⟩, if_neg c58, if_pos c78], hsm3⟩⟩ hR hO dX10_ahead_82
        ·
          refine zY.bipush hO dX10_ahead_61 (by decide) ?_
          exact zY.iret rfl ⟨_, rfl, ⟨by unfold zA_ahead; rw [if_pos ⟨c5, c13, c18⟩, if_pos c58], hq3⟩⟩ hR hO dX10_ahead_63
      ·
        refine zY.iconst hO dX10_ahead_21 ?_
        exact zY.iret rfl ⟨_, rfl, ⟨by unfold zA_ahead; rw [if_neg (fun z => z.2.2 c18)], zSame.rfl'⟩⟩ hR hO dX10_ahead_22
