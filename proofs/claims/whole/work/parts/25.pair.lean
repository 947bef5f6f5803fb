/-! Pair -/
theorem zwr_2 {μ : zMem} {q k k2 : Nat} {a b : Int} (h : k = k2) : zwr μ q k a = zwr μ q k2 a := by rw [h]
def zPr (D : zBk) (c r : Nat) (μ : zMem) : Prop := zBal D 111 μ ∧ (∀ x, x < 6 → μ 118 x = D 5 x) ∧ (∀ i, i < c → μ 122 i = (zord D i : Int)) ∧ (∀ i, i < r → μ 124 i = (zord D (c + 1 + i) : Int)) ∧ μ 110 5 = (c : Int) ∧ μ 110 6 = (r : Int)
theorem zPr.row {D : zBk} {c r : Nat} {μ μ' : zMem} (h : zPr D c r μ) (he : ∀ q, 110 ≤ q → q ≤ 124 → q ≠ 120 → μ' q = μ q) : zPr D c r μ' :=
  ⟨h.1.row (fun q h1 h2 => he q (by omega) (by omega) (by omega)), by rw [he 118 (by decide) (by decide) (by decide)]; exact h.2.1, by rw [he 122 (by decide) (by decide) (by decide)]; exact h.2.2.1, by rw [he 124 (by decide) (by decide) (by decide)]; exact h.2.2.2.1, by rw [he 110 (by decide) (by decide) (by decide)]; exact h.2.2.2.2⟩
/-- the rows are of sheets that are there -/
def zTw (D : zBk) (c r : Nat) : Prop := c ≤ 5 ∧ r ≤ 5 ∧ (∀ i, i < c → zord D i < 6 ∧ 0 < D 4 (zord D i)) ∧ ∀ i, i < r → zord D (c + 1 + i) < 6 ∧ 0 < D 4 (zord D (c + 1 + i))
theorem zTwo.tw {D : zBk} {c : Nat} (h : zTwo D c) : zTw D c (zN D - c - 1) := by
  obtain ⟨h1, h2, h3, h4, h5⟩ := h
  exact ⟨by omega, by omega, fun i hi => (h5 i (by omega) (by omega)).2, fun i hi => (h5 (c + 1 + i) (by omega) (by omega)).2⟩

set_option maxRecDepth 100000 in
set_option maxHeartbeats 4000000 in
theorem ct_X4_stepsTo {μ : zMem} {p1 p2 : Int} {p : Nat} (hp : p1 * 7 + p2 = (p : Int)) (h49 : p < 49) : Ci kX4_stepsTo 3 150 zSX [zP 110, zI p1, zI p2] μ (fun r μ' => r = μ 126 p ∧ μ' = μ) := by
  refine Ct.of [some (zP 110), some (zI p1), some (zI p2)] rfl (Nat.le_of_ble_eq_true rfl) (by decide +kernel) (fun Γ ad hO hR => ?_)
  refine zY.aload_n hO dX4_stepsTo_0 rfl ?_
  refine zY.getR zfl_X4_37 (by decide : 110 < 150) rfl rfl hO dX4_stepsTo_1 ?_
  refine zY.iload_n hO dX4_stepsTo_4 rfl ?_
  refine zY.bipush hO dX4_stepsTo_5 (by decide) ?_
  refine zY.imul hO dX4_stepsTo_7 ?_
  refine zY.iload_n hO dX4_stepsTo_8 rfl ?_
  refine zY.iadd hO dX4_stepsTo_9 ?_
  refine zY.as hp ?_
  refine zY.callV1iD (ct_atN zrw_125 (j := p) h49) (by decide) zcal_X5_at zml_X4_89 (by decide : 125 < 150) rfl rfl (Nat.le_of_ble_eq_true rfl) rfl ⟨Nat.zero_le _, Nat.zero_le _⟩ hO dX4_stepsTo_10 ?_
  exact zY.iret rfl ⟨_, rfl, ⟨rfl, rfl⟩⟩ hR hO dX4_stepsTo_13

set_option maxRecDepth 100000 in
set_option maxHeartbeats 4000000 in
theorem ct_X4_reach {μ : zMem} {p1 p2 v : Int} {p : Nat} (hp : p1 * 7 + p2 = (p : Int)) (h49 : p < 49) (hv : zr v) (hz : zr (μ 126 p)) : Cv kX4_reach 4 150 zSX [zP 110, zI p1, zI p2, zI v] μ (fun μ' => μ' = zrow μ 126 (zrea (μ 126) p v)) := by
  refine Ct.of [some (zP 110), some (zI p1), some (zI p2), some (zI v), none] rfl (Nat.le_of_ble_eq_true rfl) (by decide +kernel) (fun Γ ad hO hR => ?_)
  refine zY.aload_n hO dX4_reach_0 rfl ?_
  refine zY.iload_n hO dX4_reach_1 rfl ?_
  refine zY.iload_n hO dX4_reach_2 rfl ?_
  refine zY.callV2iD (ct_X4_stepsTo hp h49) (by decide) zcal_X4_stepsTo zml_X4_80 (by decide : 110 < 150) rfl rfl (Nat.le_of_ble_eq_true rfl) rfl ⟨Nat.zero_le _, Nat.zero_le _⟩ hO dX4_reach_3 ?_
  refine zY.istore4 (zc1_I _) hO dX4_reach_6 ?_
  refine zY.iload hO dX4_reach_8 rfl ?_
  refine zY.bipush hO dX4_reach_10 (by decide) ?_
  refine zY.icmp_eq (tgt := 21) hz ⟨by omega, by omega⟩ hO dX4_reach_12 (by decide) (fun c12 => ?_) (fun c12 => ?_)
  ·
    refine zY.aload_n hO dX4_reach_21 rfl ?_
    refine zY.getR zfl_X4_37 (by decide : 110 < 150) rfl rfl hO dX4_reach_22 ?_
    refine zY.iload_n hO dX4_reach_25 rfl ?_
    refine zY.bipush hO dX4_reach_26 (by decide) ?_
    refine zY.imul hO dX4_reach_28 ?_
    refine zY.iload_n hO dX4_reach_29 rfl ?_
    refine zY.iadd hO dX4_reach_30 ?_
    refine zY.iload_n hO dX4_reach_31 rfl ?_
    refine zY.as2 hp ?_
    refine zY.callV2vD (ct_putN zrw_125 (j := p) h49) (by decide) zcal_X5_put zml_X4_76 (by decide : 125 < 150) rfl rfl (Nat.le_of_ble_eq_true rfl) rfl ⟨Nat.zero_le _, Nat.zero_le _⟩ hO dX4_reach_32 ?_
    exact zY.vret rfl ⟨rfl, (by show _ = _; rw [zwr_eq_row]; congr 1; funext j; unfold zrea; by_cases e : j = p; (· rw [if_pos e, if_pos ⟨e, by omega⟩]); (· rw [if_neg e, if_neg (fun z => e z.1)]))⟩ hR hO dX4_reach_35
  ·
    refine zY.iload_n hO dX4_reach_15 rfl ?_
    refine zY.iload hO dX4_reach_16 rfl ?_
    refine zY.icmp_ge (tgt := 35) hv hz hO dX4_reach_18 (by decide) (fun c18 => ?_) (fun c18 => ?_)
    ·
      exact zY.vret rfl ⟨rfl, (by rw [zrow_self]; intro j; unfold zrea; rw [if_neg (fun z => by omega)])⟩ hR hO dX4_reach_35
    ·
      refine zY.aload_n hO dX4_reach_21 rfl ?_
      refine zY.getR zfl_X4_37 (by decide : 110 < 150) rfl rfl hO dX4_reach_22 ?_
      refine zY.iload_n hO dX4_reach_25 rfl ?_
      refine zY.bipush hO dX4_reach_26 (by decide) ?_
      refine zY.imul hO dX4_reach_28 ?_
      refine zY.iload_n hO dX4_reach_29 rfl ?_
      refine zY.iadd hO dX4_reach_30 ?_
      refine zY.iload_n hO dX4_reach_31 rfl ?_
      refine zY.as2 hp ?_
      refine zY.callV2vD (ct_putN zrw_125 (j := p) h49) (by decide) zcal_X5_put zml_X4_76 (by decide : 125 < 150) rfl rfl (Nat.le_of_ble_eq_true rfl) rfl ⟨Nat.zero_le _, Nat.zero_le _⟩ hO dX4_reach_32 ?_
      exact zY.vret rfl ⟨rfl, (by show _ = _; rw [zwr_eq_row]; congr 1; funext j; unfold zrea; by_cases e : j = p; (· rw [if_pos e, if_pos ⟨e, by omega⟩]); (· rw [if_neg e, if_neg (fun z => e z.1)]))⟩ hR hO dX4_reach_35

set_option maxRecDepth 100000 in
set_option maxHeartbeats 4000000 in
theorem ct_X4_print {μ : zMem} {D : zBk} {c r : Nat} (hW : zWF D) (ht : zTw D c r) (hp : zPr D c r μ) {p1 p2 : Nat} (h1 : p1 ≤ c) (h2 : p2 ≤ r) : Cv kX4_print 6 150 zSX [zP 110, zI (p1 : Int), zI (p2 : Int)] μ (fun μ' => ∃ h, μ' = zrow μ 120 h ∧ ∀ x, x < 6 → h x = zlr D c p1 p2 x) := by
  refine Ct.of [some (zP 110), some (zI (p1 : Int)), some (zI (p2 : Int)), none] rfl (Nat.le_of_ble_eq_true rfl) (by decide +kernel) (fun Γ ad hO hR => ?_)
  have hc5 := ht.1
  have hr5 := ht.2.1
  refine zY.aload_n hO dX4_print_0 rfl ?_
  refine zY.getR zfl_X4_23 (by decide : 110 < 150) rfl rfl hO dX4_print_1 ?_
  refine zY.callV0v (ct_X7_refill zst_116) (by decide) zcal_X7_refill zml_X4_100 (by decide : 116 < 150) rfl rfl (Nat.le_of_ble_eq_true rfl) rfl ⟨Nat.zero_le _, Nat.zero_le _⟩ hO dX4_print_4 (fun μ1 hq1 => ?_)
  obtain ⟨hq, hq1, hq2⟩ := hq1
  refine zY.iconst hO dX4_print_7 ?_
  refine zY.istore3 (zc1_I _) hO dX4_print_8 ?_
  have L9 : ∀ i : Nat, i ≤ p1 → ∀ (μ1 : zMem) (hq : Nat → Int), μ1 = zrow μ 120 hq → (∀ x, x < 6 → hq x = zlra D 0 i (D 5) x) → zY Γ (150, zSX, ad, 0, 0) 9 [some (zP 110), some (zI (p1 : Int)), some (zI (p2 : Int)), some (zI (i : Int))] [] μ1 := by
    refine zdown (p1) (fun i hi_i ih9 => ?_)
    intro μ1 hq hI hJ
    have hp1 : zPr D c r μ1 := hp.row (fun q h1 h2 h3 => by rw [hI, zrow_ne h3])
    refine zY.iload_n hO dX4_print_9 rfl ?_
    refine zY.iload_n hO dX4_print_10 rfl ?_
    refine zY.icmp_ge (tgt := 42) ⟨by omega, by omega⟩ ⟨by omega, by omega⟩ hO dX4_print_11 (by decide) (fun c11 => ?_) (fun c11 => ?_)
    ·
      have hi1 : i = p1 := by omega
      rw [hi1] at hJ
      refine zY.iconst hO dX4_print_42 ?_
      refine zY.istore3 (zc1_I _) hO dX4_print_43 ?_
      have L44 : ∀ j : Nat, j ≤ p2 → ∀ (μ2 : zMem) (gq : Nat → Int), μ2 = zrow μ 120 gq → (∀ x, x < 6 → gq x = zlra D (c + 1) j (zlra D 0 p1 (D 5)) x) → zY Γ (150, zSX, ad, 0, 0) 44 [some (zP 110), some (zI (p1 : Int)), some (zI (p2 : Int)), some (zI (j : Int))] [] μ2 := by
        refine zdown (p2) (fun j hi_j ih44 => ?_)
        intro μ2 gq hI2 hJ2
        have hp2 : zPr D c r μ2 := hp.row (fun q h1 h2 h3 => by rw [hI2, zrow_ne h3])
        refine zY.iload_n hO dX4_print_44 rfl ?_
        refine zY.iload_n hO dX4_print_45 rfl ?_
        refine zY.icmp_ge (tgt := 77) ⟨by omega, by omega⟩ ⟨by omega, by omega⟩ hO dX4_print_46 (by decide) (fun c46 => ?_) (fun c46 => ?_)
        ·
          exact zY.vret rfl ⟨rfl, ⟨gq, hI2, fun x hx => by rw [hJ2 x hx, show j = p2 by omega]; rfl⟩⟩ hR hO dX4_print_77
        ·
          refine zY.aload_n hO dX4_print_49 rfl ?_
          refine zY.getR zfl_X4_23 (by decide : 110 < 150) rfl rfl hO dX4_print_50 ?_
          refine zY.aload_n hO dX4_print_53 rfl ?_
          refine zY.getR zfl_X4_14 (by decide : 110 < 150) rfl rfl hO dX4_print_54 ?_
          refine zY.aload_n hO dX4_print_57 rfl ?_
          refine zY.getR zfl_X4_34 (by decide : 110 < 150) rfl rfl hO dX4_print_58 ?_
          refine zY.iload_n hO dX4_print_61 rfl ?_
          refine zY.callV1iD (ct_atN zrw_123 (j := j) (by omega)) (by decide) zcal_X5_at zml_X4_89 (by decide : 123 < 150) rfl rfl (Nat.le_of_ble_eq_true rfl) rfl ⟨Nat.zero_le _, Nat.zero_le _⟩ hO dX4_print_62 ?_
          refine zY.as (b := (zord D (c + 1 + j) : Int)) (hp2.2.2.2.1 j (by omega)) ?_
          have ho := ht.2.2.2 j (by omega)
          refine zY.callV1iD (ct_X0_broken zbl_111 ho.1) (by decide) zcal_X0_broken zml_X4_103 (by decide : 111 < 150) rfl rfl (Nat.le_of_ble_eq_true rfl) rfl ⟨Nat.zero_le _, Nat.zero_le _⟩ hO dX4_print_65 ?_
          refine zY.as (b := zbx D (zord D (c + 1 + j)) 0) ((hp2.1 _ ho.1).2) ?_
          refine zY.callV1vD (ct_breakOne zst_116 (zbx_b 0 hW ho.1) (fun x hx => by rw [hI2, show zrow μ 120 gq (116 + 4) = gq from zrow_eq, hJ2 x hx]; have hz1 := hW.2.1 x hx; have hz2 := zlra_b (D := D) (o := c + 1) (x := x) (f := zlra D 0 p1 (D 5)) (zlra_b (by omega) _) j; exact ⟨by omega, by omega⟩)) (by decide) zcal_X7_breakOne zml_X4_106 (by decide : 116 < 150) rfl rfl (Nat.le_of_ble_eq_true rfl) rfl ⟨Nat.zero_le _, Nat.zero_le _⟩ hO dX4_print_68 ?_
          refine zY.iinc3 _ rfl (zc1_I _) hO dX4_print_71 ?_
          refine zY.goto (tgt := 44) hO dX4_print_74 (by decide) ?_
          exact ih44 (by omega) _ (zls gq (zbx D (zord D (c + 1 + j)) 0)) (by rw [hI2, show zrow μ 120 gq (116 + 4) = gq from zrow_eq]; exact zrow_row) (fun x hx => by simp only [zlra]; exact zls_congr (hJ2 x hx))
      exact L44 0 (by omega) μ1 hq hI hJ
    ·
      refine zY.aload_n hO dX4_print_14 rfl ?_
      refine zY.getR zfl_X4_23 (by decide : 110 < 150) rfl rfl hO dX4_print_15 ?_
      refine zY.aload_n hO dX4_print_18 rfl ?_
      refine zY.getR zfl_X4_14 (by decide : 110 < 150) rfl rfl hO dX4_print_19 ?_
      refine zY.aload_n hO dX4_print_22 rfl ?_
      refine zY.getR zfl_X4_30 (by decide : 110 < 150) rfl rfl hO dX4_print_23 ?_
      refine zY.iload_n hO dX4_print_26 rfl ?_
      refine zY.callV1iD (ct_atN zrw_121 (j := i) (by omega)) (by decide) zcal_X5_at zml_X4_89 (by decide : 121 < 150) rfl rfl (Nat.le_of_ble_eq_true rfl) rfl ⟨Nat.zero_le _, Nat.zero_le _⟩ hO dX4_print_27 ?_
      refine zY.as (b := (zord D i : Int)) (hp1.2.2.1 i (by omega)) ?_
      have ho := ht.2.2.1 i (by omega)
      refine zY.callV1iD (ct_X0_broken zbl_111 ho.1) (by decide) zcal_X0_broken zml_X4_103 (by decide : 111 < 150) rfl rfl (Nat.le_of_ble_eq_true rfl) rfl ⟨Nat.zero_le _, Nat.zero_le _⟩ hO dX4_print_30 ?_
      refine zY.as (b := zbx D (zord D i) 0) ((hp1.1 _ ho.1).2) ?_
      refine zY.callV1vD (ct_breakOne zst_116 (zbx_b 0 hW ho.1) (fun x hx => by rw [hI, show zrow μ 120 hq (116 + 4) = hq from zrow_eq, hJ x hx]; have hz1 := hW.2.1 x hx; have hz2 := zlra_b (D := D) (o := 0) (x := x) (f := D 5) (by omega) i; exact ⟨by omega, by omega⟩)) (by decide) zcal_X7_breakOne zml_X4_106 (by decide : 116 < 150) rfl rfl (Nat.le_of_ble_eq_true rfl) rfl ⟨Nat.zero_le _, Nat.zero_le _⟩ hO dX4_print_33 ?_
      refine zY.iinc3 _ rfl (zc1_I _) hO dX4_print_36 ?_
      refine zY.goto (tgt := 9) hO dX4_print_39 (by decide) ?_
      exact ih9 (by omega) _ (zls hq (zbx D (zord D i) 0)) (by rw [hI, show zrow μ 120 hq (116 + 4) = hq from zrow_eq]; exact zrow_row) (fun x hx => by simp only [zlra]; rw [Nat.zero_add]; exact zls_congr (hJ x hx))
  exact L9 0 (by omega) μ1 hq hq1 (fun x hx => (hq2 x hx).trans (hp.2.1 x hx))

set_option maxRecDepth 100000 in
set_option maxHeartbeats 4000000 in
theorem ct_X4_stepFrom {μ : zMem} {D : zBk} {c r : Nat} (hW : zWF D) (ht : zTw D c r) (hp : zPr D c r μ) {p1 p2 : Nat} (h1 : p1 ≤ c) (h2 : p2 ≤ r) (hi : zsti (μ 126)) (hn : μ 126 (7 * p1 + p2) ≠ -6) : Cv kX4_stepFrom 7 150 zSX [zP 110, zI (p1 : Int), zI (p2 : Int)] μ (fun μ' => ∃ h, μ' = zrow (zrow μ 120 h) 126 (zcel D c r p1 p2 (μ 126))) := by
  refine Ct.of [some (zP 110), some (zI (p1 : Int)), some (zI (p2 : Int)), none, none, none] rfl (Nat.le_of_ble_eq_true rfl) (by decide +kernel) (fun Γ ad hO hR => ?_)
  have hc5 := ht.1
  have hr5 := ht.2.1
  have hv0 := hi (7 * p1 + p2) (by omega)
  have hv : 0 ≤ μ 126 (7 * p1 + p2) + 1 ∧ μ 126 (7 * p1 + p2) + 1 ≤ 7 * p1 + p2 + 1 := by omega
  refine zY.aload_n hO dX4_stepFrom_0 rfl ?_
  refine zY.iload_n hO dX4_stepFrom_1 rfl ?_
  refine zY.iload_n hO dX4_stepFrom_2 rfl ?_
  refine zY.callV2v (ct_X4_print hW ht hp h1 h2) (by decide) zcal_X4_print zml_X4_86 (by decide : 110 < 150) rfl rfl (Nat.le_of_ble_eq_true rfl) rfl ⟨Nat.zero_le _, Nat.zero_le _⟩ hO dX4_stepFrom_3 (fun μ2 hq1 => ?_)
  obtain ⟨hq, hq1, hq2⟩ := hq1
  have hp2 : zPr D c r μ2 := hp.row (fun q h1 h2 h3 => by rw [hq1, zrow_ne h3])
  have L173 : ∀ (mq nq : Int) (μ3 : zMem), μ3 = zrow (zrow μ 120 hq) 126 (zq D c r p1 p2 (μ 126 (7 * p1 + p2) + 1) (μ 126)) → zY Γ (150, zSX, ad, 0, 0) 173 [some (zP 110), some (zI (p1 : Int)), some (zI (p2 : Int)), some (zI mq), some (zI nq), some (zI (μ 126 (7 * p1 + p2) + 1))] [] μ3 := by
    intro mq nq μ3 hm3
    exact zY.vret rfl ⟨rfl, ⟨hq, by rw [hm3]; unfold zcel; rw [if_neg hn]⟩⟩ hR hO dX4_stepFrom_173
  have L122 : ∀ (mq nq : Int) (μ3 : zMem), ((mq = 1 ∧ p1 < c) ∨ (mq = 0 ∧ ¬ p1 < c)) → ((nq = 1 ∧ p2 < r) ∨ (nq = 0 ∧ ¬ p2 < r)) → μ3 = zrow (zrow μ 120 hq) 126 (zq2 D c r p1 p2 (μ 126 (7 * p1 + p2) + 1) (zq1 D c p1 p2 (μ 126 (7 * p1 + p2) + 1) (μ 126))) → zY Γ (150, zSX, ad, 0, 0) 122 [some (zP 110), some (zI (p1 : Int)), some (zI (p2 : Int)), some (zI mq), some (zI nq), some (zI (μ 126 (7 * p1 + p2) + 1))] [] μ3 := by
    intro mq nq μ3 hmq hnq hm3
    have hp3 : zPr D c r μ3 := hp.row (fun q h1 h2 h3 => by rw [hm3, zrow_ne (by omega), zrow_ne (by omega)])
    have hl3 : ∀ x, x < 6 → μ3 (116 + 4) x = zlr D c p1 p2 x := fun x hx => by rw [hm3, zrow_ne (by decide), zrow_eq]; exact hq2 x hx
    refine zY.iload_n hO dX4_stepFrom_122 rfl ?_
    refine zY.if_eq (tgt := 173) ⟨by omega, by omega⟩ hO dX4_stepFrom_123 (by decide) (fun c123 => ?_) (fun c123 => ?_)
    ·
      have hge : ¬ p1 < c := by omega
      exact L173 _ _ _ (by rw [hm3]; unfold zq zq3; rw [if_neg (fun z => hge z.1)])
    ·
      have hlt : p1 < c := by omega
      have ho1 := ht.2.2.1 p1 hlt
      refine zY.iload hO dX4_stepFrom_126 rfl ?_
      refine zY.if_eq (tgt := 173) ⟨by omega, by omega⟩ hO dX4_stepFrom_128 (by decide) (fun c128 => ?_) (fun c128 => ?_)
      ·
        have hge2 : ¬ p2 < r := by omega
        exact L173 _ _ _ (by rw [hm3]; unfold zq zq3; rw [if_neg (fun z => hge2 z.2.1)])
      ·
        have hlt2 : p2 < r := by omega
        have ho2 := ht.2.2.2 p2 hlt2
        refine zY.aload_n hO dX4_stepFrom_131 rfl ?_
        refine zY.getR zfl_X4_23 (by decide : 110 < 150) rfl rfl hO dX4_stepFrom_132 ?_
        refine zY.aload_n hO dX4_stepFrom_135 rfl ?_
        refine zY.getR zfl_X4_14 (by decide : 110 < 150) rfl rfl hO dX4_stepFrom_136 ?_
        refine zY.aload_n hO dX4_stepFrom_139 rfl ?_
        refine zY.getR zfl_X4_30 (by decide : 110 < 150) rfl rfl hO dX4_stepFrom_140 ?_
        refine zY.iload_n hO dX4_stepFrom_143 rfl ?_
        refine zY.callV1iD (ct_atN zrw_121 (j := p1) (by omega)) (by decide) zcal_X5_at zml_X4_89 (by decide : 121 < 150) rfl rfl (Nat.le_of_ble_eq_true rfl) rfl ⟨Nat.zero_le _, Nat.zero_le _⟩ hO dX4_stepFrom_144 ?_
        refine zY.as (b := (zord D p1 : Int)) (hp3.2.2.1 p1 hlt) ?_
        refine zY.aload_n hO dX4_stepFrom_147 rfl ?_
        refine zY.getR zfl_X4_34 (by decide : 110 < 150) rfl rfl hO dX4_stepFrom_148 ?_
        refine zY.iload_n hO dX4_stepFrom_151 rfl ?_
        refine zY.callV1iD (ct_atN zrw_123 (j := p2) (by omega)) (by decide) zcal_X5_at zml_X4_89 (by decide : 123 < 150) rfl rfl (Nat.le_of_ble_eq_true rfl) rfl ⟨Nat.zero_le _, Nat.zero_le _⟩ hO dX4_stepFrom_152 ?_
        refine zY.as (b := (zord D (c + 1 + p2) : Int)) (hp3.2.2.2.1 p2 hlt2) ?_
        refine zY.callV3iD (ct_X7_hasFor zst_116 zbl_111 (A := zn1 D p1) (B := zn2 D c p2) (F := zlr D c p1 p2) (hp3.1 _ ho1.1).1 hl3 (fun x hx => by have h1q := znd_b (ch := 0) x hW ho1.1; have h2q := zlr_b hW c p1 p2 hx; unfold zn1; omega) (hp3.1 _ ho2.1).1 (fun x hx => by have h1q := znd_b (ch := 0) x hW ho2.1; unfold zn2; omega) ho1.1 ho2.1) (by decide) zcal_X7_hasFor zml_X4_92 (by decide : 116 < 150) rfl rfl (Nat.le_of_ble_eq_true rfl) rfl ⟨Nat.zero_le _, Nat.zero_le _⟩ hO dX4_stepFrom_155 ?_
        refine zY.if_eq (tgt := 173) zr_b hO dX4_stepFrom_158 (by decide) (fun c158 => ?_) (fun c158 => ?_)
        ·
          replace c158 := zb0.mp c158
          exact L173 _ _ _ (by rw [hm3]; unfold zq zq3; rw [if_neg (fun z => c158 z.2.2)])
        ·
          replace c158 := zb1.mp c158
          refine zY.aload_n hO dX4_stepFrom_161 rfl ?_
          refine zY.iload_n hO dX4_stepFrom_162 rfl ?_
          refine zY.iconst hO dX4_stepFrom_163 ?_
          refine zY.iadd hO dX4_stepFrom_164 ?_
          refine zY.iload_n hO dX4_stepFrom_165 rfl ?_
          refine zY.iconst hO dX4_stepFrom_166 ?_
          refine zY.iadd hO dX4_stepFrom_167 ?_
          refine zY.iload hO dX4_stepFrom_168 rfl ?_
          refine zY.callV3vD (ct_X4_reach (p := 7 * p1 + p2 + 8) (by omega) (by omega) ⟨by omega, by omega⟩ (by have hz := zq2_i (D := D) (zq1_i (D := D) hi hc5 h1 (by omega) hv) hc5 hr5 h1 h2 hv (7 * p1 + p2 + 8) (by omega); rw [hm3, zrow_eq]; exact ⟨by omega, by omega⟩)) (by decide) zcal_X4_reach zml_X4_96 (by decide : 110 < 150) rfl rfl (Nat.le_of_ble_eq_true rfl) rfl ⟨Nat.zero_le _, Nat.zero_le _⟩ hO dX4_stepFrom_170 ?_
          exact L173 _ _ _ (by rw [hm3]; unfold zq zq3; rw [if_pos ⟨hlt, hlt2, c158⟩, zrow_eq, zrow_row])
  have L83 : ∀ (mq nq : Int) (μ3 : zMem), ((mq = 1 ∧ p1 < c) ∨ (mq = 0 ∧ ¬ p1 < c)) → ((nq = 1 ∧ p2 < r) ∨ (nq = 0 ∧ ¬ p2 < r)) → μ3 = zrow (zrow μ 120 hq) 126 (zq1 D c p1 p2 (μ 126 (7 * p1 + p2) + 1) (μ 126)) → zY Γ (150, zSX, ad, 0, 0) 83 [some (zP 110), some (zI (p1 : Int)), some (zI (p2 : Int)), some (zI mq), some (zI nq), some (zI (μ 126 (7 * p1 + p2) + 1))] [] μ3 := by
    intro mq nq μ3 hmq hnq hm3
    have hp3 : zPr D c r μ3 := hp.row (fun q h1 h2 h3 => by rw [hm3, zrow_ne (by omega), zrow_ne (by omega)])
    have hl3 : ∀ x, x < 6 → μ3 (116 + 4) x = zlr D c p1 p2 x := fun x hx => by rw [hm3, zrow_ne (by decide), zrow_eq]; exact hq2 x hx
    refine zY.iload hO dX4_stepFrom_83 rfl ?_
    refine zY.if_eq (tgt := 122) ⟨by omega, by omega⟩ hO dX4_stepFrom_85 (by decide) (fun c85 => ?_) (fun c85 => ?_)
    ·
      have hge : ¬ p2 < r := by omega
      exact L122 _ _ _ hmq hnq (by rw [hm3]; unfold zq2; rw [if_neg (fun z => hge z.1)])
    ·
      have hlt : p2 < r := by omega
      have ho2 := ht.2.2.2 p2 hlt
      refine zY.aload_n hO dX4_stepFrom_88 rfl ?_
      refine zY.getR zfl_X4_23 (by decide : 110 < 150) rfl rfl hO dX4_stepFrom_89 ?_
      refine zY.aload_n hO dX4_stepFrom_92 rfl ?_
      refine zY.getR zfl_X4_14 (by decide : 110 < 150) rfl rfl hO dX4_stepFrom_93 ?_
      refine zY.aload_n hO dX4_stepFrom_96 rfl ?_
      refine zY.getR zfl_X4_34 (by decide : 110 < 150) rfl rfl hO dX4_stepFrom_97 ?_
      refine zY.iload_n hO dX4_stepFrom_100 rfl ?_
      refine zY.callV1iD (ct_atN zrw_123 (j := p2) (by omega)) (by decide) zcal_X5_at zml_X4_89 (by decide : 123 < 150) rfl rfl (Nat.le_of_ble_eq_true rfl) rfl ⟨Nat.zero_le _, Nat.zero_le _⟩ hO dX4_stepFrom_101 ?_
      refine zY.as (b := (zord D (c + 1 + p2) : Int)) (hp3.2.2.2.1 p2 hlt) ?_
      refine zY.bipush hO dX4_stepFrom_104 (by decide) ?_
      refine zY.callV3iD (ct_hasForN zst_116 zbl_111 (A := zn2 D c p2) (F := zlr D c p1 p2) (hp3.1 _ ho2.1).1 hl3 (fun x hx => by have h1q := znd_b (ch := 0) x hW ho2.1; have h2q := zlr_b hW c p1 p2 hx; unfold zn2; omega) ho2.1) (by decide) zcal_X7_hasFor zml_X4_92 (by decide : 116 < 150) rfl rfl (Nat.le_of_ble_eq_true rfl) rfl ⟨Nat.zero_le _, Nat.zero_le _⟩ hO dX4_stepFrom_106 ?_
      refine zY.if_eq (tgt := 122) zr_b hO dX4_stepFrom_109 (by decide) (fun c109 => ?_) (fun c109 => ?_)
      ·
        replace c109 := zb0.mp c109
        exact L122 _ _ _ hmq hnq (by rw [hm3]; unfold zq2; rw [if_neg (fun z => c109 z.2)])
      ·
        replace c109 := zb1.mp c109
        refine zY.aload_n hO dX4_stepFrom_112 rfl ?_
        refine zY.iload_n hO dX4_stepFrom_113 rfl ?_
        refine zY.iload_n hO dX4_stepFrom_114 rfl ?_
        refine zY.iconst hO dX4_stepFrom_115 ?_
        refine zY.iadd hO dX4_stepFrom_116 ?_
        refine zY.iload hO dX4_stepFrom_117 rfl ?_
        refine zY.callV3vD (ct_X4_reach (p := 7 * p1 + p2 + 1) (by omega) (by omega) ⟨by omega, by omega⟩ (by have hz := zq1_i (D := D) hi hc5 h1 (by omega) hv (7 * p1 + p2 + 1) (by omega); rw [hm3, zrow_eq]; exact ⟨by omega, by omega⟩)) (by decide) zcal_X4_reach zml_X4_96 (by decide : 110 < 150) rfl rfl (Nat.le_of_ble_eq_true rfl) rfl ⟨Nat.zero_le _, Nat.zero_le _⟩ hO dX4_stepFrom_119 ?_
        exact L122 _ _ _ hmq hnq (by rw [hm3]; unfold zq2; rw [if_pos ⟨hlt, c109⟩, zrow_eq, zrow_row])
  have L33 : ∀ mq nq : Int, ((mq = 1 ∧ p1 < c) ∨ (mq = 0 ∧ ¬ p1 < c)) → ((nq = 1 ∧ p2 < r) ∨ (nq = 0 ∧ ¬ p2 < r)) → zY Γ (150, zSX, ad, 0, 0) 33 [some (zP 110), some (zI (p1 : Int)), some (zI (p2 : Int)), some (zI mq), none, none] [zI nq] μ2 := by
    intro mq nq hmq hnq
    refine zY.istore4 (zc1_I _) hO dX4_stepFrom_33 ?_
    refine zY.aload_n hO dX4_stepFrom_35 rfl ?_
    refine zY.iload_n hO dX4_stepFrom_36 rfl ?_
    refine zY.iload_n hO dX4_stepFrom_37 rfl ?_
    refine zY.callV2iD (ct_X4_stepsTo (p := 7 * p1 + p2) (by omega) (by omega)) (by decide) zcal_X4_stepsTo zml_X4_80 (by decide : 110 < 150) rfl rfl (Nat.le_of_ble_eq_true rfl) rfl ⟨Nat.zero_le _, Nat.zero_le _⟩ hO dX4_stepFrom_38 ?_
    refine zY.as (b := μ 126 (7 * p1 + p2)) (by rw [hq1, zrow_ne (by decide)]) ?_
    refine zY.iconst hO dX4_stepFrom_41 ?_
    refine zY.iadd hO dX4_stepFrom_42 ?_
    refine zY.istore5 (zc1_I _) hO dX4_stepFrom_43 ?_
    have hp3 := hp2
    have hl3 : ∀ x, x < 6 → μ2 (116 + 4) x = zlr D c p1 p2 x := fun x hx => by rw [hq1, zrow_eq]; exact hq2 x hx
    refine zY.iload_n hO dX4_stepFrom_45 rfl ?_
    refine zY.if_eq (tgt := 83) ⟨by omega, by omega⟩ hO dX4_stepFrom_46 (by decide) (fun c46 => ?_) (fun c46 => ?_)
    ·
      have hge : ¬ p1 < c := by omega
      exact L83 _ _ _ hmq hnq (by rw [hq1]; unfold zq1; rw [if_neg (fun z => hge z.1), zrow_self (q := 126) (fun _ => by rw [zrow_ne (by decide)])])
    ·
      have hlt : p1 < c := by omega
      have ho1 := ht.2.2.1 p1 hlt
      refine zY.aload_n hO dX4_stepFrom_49 rfl ?_
      refine zY.getR zfl_X4_23 (by decide : 110 < 150) rfl rfl hO dX4_stepFrom_50 ?_
      refine zY.aload_n hO dX4_stepFrom_53 rfl ?_
      refine zY.getR zfl_X4_14 (by decide : 110 < 150) rfl rfl hO dX4_stepFrom_54 ?_
      refine zY.aload_n hO dX4_stepFrom_57 rfl ?_
      refine zY.getR zfl_X4_30 (by decide : 110 < 150) rfl rfl hO dX4_stepFrom_58 ?_
      refine zY.iload_n hO dX4_stepFrom_61 rfl ?_
      refine zY.callV1iD (ct_atN zrw_121 (j := p1) (by omega)) (by decide) zcal_X5_at zml_X4_89 (by decide : 121 < 150) rfl rfl (Nat.le_of_ble_eq_true rfl) rfl ⟨Nat.zero_le _, Nat.zero_le _⟩ hO dX4_stepFrom_62 ?_
      refine zY.as (b := (zord D p1 : Int)) (hp3.2.2.1 p1 hlt) ?_
      refine zY.bipush hO dX4_stepFrom_65 (by decide) ?_
      refine zY.callV3iD (ct_hasForN zst_116 zbl_111 (A := zn1 D p1) (F := zlr D c p1 p2) (hp3.1 _ ho1.1).1 hl3 (fun x hx => by have h1q := znd_b (ch := 0) x hW ho1.1; have h2q := zlr_b hW c p1 p2 hx; unfold zn1; omega) ho1.1) (by decide) zcal_X7_hasFor zml_X4_92 (by decide : 116 < 150) rfl rfl (Nat.le_of_ble_eq_true rfl) rfl ⟨Nat.zero_le _, Nat.zero_le _⟩ hO dX4_stepFrom_67 ?_
      refine zY.if_eq (tgt := 83) zr_b hO dX4_stepFrom_70 (by decide) (fun c70 => ?_) (fun c70 => ?_)
      ·
        replace c70 := zb0.mp c70
        exact L83 _ _ _ hmq hnq (by rw [hq1]; unfold zq1; rw [if_neg (fun z => c70 z.2), zrow_self (q := 126) (fun _ => by rw [zrow_ne (by decide)])])
      ·
        replace c70 := zb1.mp c70
        refine zY.aload_n hO dX4_stepFrom_73 rfl ?_
        refine zY.iload_n hO dX4_stepFrom_74 rfl ?_
        refine zY.iconst hO dX4_stepFrom_75 ?_
        refine zY.iadd hO dX4_stepFrom_76 ?_
        refine zY.iload_n hO dX4_stepFrom_77 rfl ?_
        refine zY.iload hO dX4_stepFrom_78 rfl ?_
        refine zY.callV3vD (ct_X4_reach (p := 7 * p1 + p2 + 7) (by omega) (by omega) ⟨by omega, by omega⟩ (by have hz := hi (7 * p1 + p2 + 7) (by omega); rw [hq1, zrow_ne (by decide)]; exact ⟨by omega, by omega⟩)) (by decide) zcal_X4_reach zml_X4_96 (by decide : 110 < 150) rfl rfl (Nat.le_of_ble_eq_true rfl) rfl ⟨Nat.zero_le _, Nat.zero_le _⟩ hO dX4_stepFrom_80 ?_
        exact L83 _ _ _ hmq hnq (by rw [hq1]; unfold zq1; rw [if_pos ⟨hlt, c70⟩, zrow_ne (q := 120) (q' := 126) (by decide)])
  have L19 : ∀ mq : Int, ((mq = 1 ∧ p1 < c) ∨ (mq = 0 ∧ ¬ p1 < c)) → zY Γ (150, zSX, ad, 0, 0) 19 [some (zP 110), some (zI (p1 : Int)), some (zI (p2 : Int)), none, none, none] [zI mq] μ2 := by
    intro mq hmq
    refine zY.istore3 (zc1_I _) hO dX4_stepFrom_19 ?_
    refine zY.iload_n hO dX4_stepFrom_20 rfl ?_
    refine zY.aload_n hO dX4_stepFrom_21 rfl ?_
    refine zY.getI zfl_X4_44 (by decide : 110 < 150) rfl rfl hO dX4_stepFrom_22 ?_
    refine zY.as (b := (r : Int)) hp2.2.2.2.2.2 ?_
    refine zY.icmp_ge (tgt := 32) ⟨by omega, by omega⟩ ⟨by omega, by omega⟩ hO dX4_stepFrom_25 (by decide) (fun c25 => ?_) (fun c25 => ?_)
    ·
      refine zY.iconst hO dX4_stepFrom_32 ?_
      exact L33 _ _ hmq (Or.inr ⟨rfl, by omega⟩)
    ·
      refine zY.iconst hO dX4_stepFrom_28 ?_
      refine zY.goto (tgt := 33) hO dX4_stepFrom_29 (by decide) ?_
      exact L33 _ _ hmq (Or.inl ⟨rfl, by omega⟩)
  refine zY.iload_n hO dX4_stepFrom_6 rfl ?_
  refine zY.aload_n hO dX4_stepFrom_7 rfl ?_
  refine zY.getI zfl_X4_40 (by decide : 110 < 150) rfl rfl hO dX4_stepFrom_8 ?_
  refine zY.as (b := (c : Int)) hp2.2.2.2.2.1 ?_
  refine zY.icmp_ge (tgt := 18) ⟨by omega, by omega⟩ ⟨by omega, by omega⟩ hO dX4_stepFrom_11 (by decide) (fun c11 => ?_) (fun c11 => ?_)
  ·
    refine zY.iconst hO dX4_stepFrom_18 ?_
    exact L19 _ (Or.inr ⟨rfl, by omega⟩)
  ·
    refine zY.iconst hO dX4_stepFrom_14 ?_
    refine zY.goto (tgt := 19) hO dX4_stepFrom_15 (by decide) ?_
    exact L19 _ (Or.inl ⟨rfl, by omega⟩)

set_option maxRecDepth 100000 in
set_option maxHeartbeats 4000000 in
theorem ct_X4_fewestSteps {μ : zMem} {D : zBk} {c r : Nat} (hW : zWF D) (ht : zTw D c r) (hp : zPr D c r μ)  : Ci kX4_fewestSteps 8 150 zSX [zP 110] μ (fun a μ' => a = zces D c r (c + 1) zs0 (7 * c + r) ∧ ∃ h g, μ' = zrow (zrow μ 120 h) 126 g) := by
  refine Ct.of [some (zP 110), none, none] rfl (Nat.le_of_ble_eq_true rfl) (by decide +kernel) (fun Γ ad hO hR => ?_)
  have hc5 := ht.1
  have hr5 := ht.2.1
  have hsi : zsti (fun j => if j = 0 then 0 else if j < 49 then -6 else μ 126 j) := fun p hp => by by_cases e : p = 0; (· right; simp [e]); (· left; simp [e, hp])
  have hsq : zsq (fun j => if j = 0 then 0 else if j < 49 then -6 else μ 126 j) zs0 := fun p hp => by unfold zs0; by_cases e : p = 0; (· simp [e]); (· simp [e, hp])
  refine zY.aload_n hO dX4_fewestSteps_0 rfl ?_
  refine zY.getR zfl_X4_37 (by decide : 110 < 150) rfl rfl hO dX4_fewestSteps_1 ?_
  refine zY.bipush hO dX4_fewestSteps_4 (by decide) ?_
  refine zY.callV1vD (ct_X5_fill zrw_125) (by decide) zcal_X5_fill zml_X4_54 (by decide : 125 < 150) rfl rfl (Nat.le_of_ble_eq_true rfl) rfl ⟨Nat.zero_le _, Nat.zero_le _⟩ hO dX4_fewestSteps_6 ?_
  refine zY.aload_n hO dX4_fewestSteps_9 rfl ?_
  refine zY.getR zfl_X4_37 (by decide : 110 < 150) rfl rfl hO dX4_fewestSteps_10 ?_
  refine zY.iconst hO dX4_fewestSteps_13 ?_
  refine zY.iconst hO dX4_fewestSteps_14 ?_
  refine zY.callV2vD (ct_putN zrw_125 (j := 0) (by omega)) (by decide) zcal_X5_put zml_X4_76 (by decide : 125 < 150) rfl rfl (Nat.le_of_ble_eq_true rfl) rfl ⟨Nat.zero_le _, Nat.zero_le _⟩ hO dX4_fewestSteps_15 ?_
  refine zY.iconst hO dX4_fewestSteps_18 ?_
  refine zY.istore1 (zc1_P _) hO dX4_fewestSteps_19 ?_
  have L20 : ∀ i : Nat, i ≤ c + 1 → ∀ (μ1 : zMem) (hq : Nat → Int), μ1 = zrow (zrow μ 120 hq) 126 (zces D c r i (fun j => if j = 0 then 0 else if j < 49 then -6 else μ 126 j)) → zY Γ (150, zSX, ad, 0, 0) 20 [some (zP 110), some (zI (i : Int)), none] [] μ1 := by
    refine zdown (c + 1) (fun i hi_i ih20 => ?_)
    intro μ1 hq hI
    have hp1 : zPr D c r μ1 := hp.row (fun q h1 h2 h3 => by rw [hI, zrow_ne (by omega), zrow_ne h3])
    refine zY.iload_n hO dX4_fewestSteps_20 rfl ?_
    refine zY.aload_n hO dX4_fewestSteps_21 rfl ?_
    refine zY.getI zfl_X4_40 (by decide : 110 < 150) rfl rfl hO dX4_fewestSteps_22 ?_
    refine zY.as (b := (c : Int)) hp1.2.2.2.2.1 ?_
    refine zY.icmp_gt (tgt := 67) ⟨by omega, by omega⟩ ⟨by omega, by omega⟩ hO dX4_fewestSteps_25 (by decide) (fun c25 => ?_) (fun c25 => ?_)
    ·
      refine zY.aload_n hO dX4_fewestSteps_67 rfl ?_
      refine zY.aload_n hO dX4_fewestSteps_68 rfl ?_
      refine zY.getI zfl_X4_40 (by decide : 110 < 150) rfl rfl hO dX4_fewestSteps_69 ?_
      refine zY.aload_n hO dX4_fewestSteps_72 rfl ?_
      refine zY.getI zfl_X4_44 (by decide : 110 < 150) rfl rfl hO dX4_fewestSteps_73 ?_
      refine zY.as (b := (r : Int)) hp1.2.2.2.2.2 ?_
      refine zY.as2 (b := (c : Int)) hp1.2.2.2.2.1 ?_
      refine zY.callV2iD (ct_X4_stepsTo (p := 7 * c + r) (by omega) (by omega)) (by decide) zcal_X4_stepsTo zml_X4_80 (by decide : 110 < 150) rfl rfl (Nat.le_of_ble_eq_true rfl) rfl ⟨Nat.zero_le _, Nat.zero_le _⟩ hO dX4_fewestSteps_76 ?_
      exact zY.iret rfl ⟨_, rfl, ⟨by rw [hI, zrow_eq, show i = c + 1 by omega]; exact zces_c hsq hc5 hr5 (c + 1) (Nat.le_refl _) _ (by omega), hq, _, hI⟩⟩ hR hO dX4_fewestSteps_79
    ·
      refine zY.iconst hO dX4_fewestSteps_28 ?_
      refine zY.istore2 (zc1_I _) hO dX4_fewestSteps_29 ?_
      have L30 : ∀ j : Nat, j ≤ r + 1 → ∀ (μ2 : zMem) (hq : Nat → Int), μ2 = zrow (zrow μ 120 hq) 126 (zcer D c r i j (zces D c r i (fun j => if j = 0 then 0 else if j < 49 then -6 else μ 126 j))) → zY Γ (150, zSX, ad, 0, 0) 30 [some (zP 110), some (zI (i : Int)), some (zI (j : Int))] [] μ2 := by
        refine zdown (r + 1) (fun j hi_j ih30 => ?_)
        intro μ2 hq2 hI2
        have hp2 : zPr D c r μ2 := hp.row (fun q h1 h2 h3 => by rw [hI2, zrow_ne (by omega), zrow_ne h3])
        have h126 : μ2 126 = zcer D c r i j (zces D c r i (fun j => if j = 0 then 0 else if j < 49 then -6 else μ 126 j)) := by rw [hI2, zrow_eq]
        refine zY.iload_n hO dX4_fewestSteps_30 rfl ?_
        refine zY.aload_n hO dX4_fewestSteps_31 rfl ?_
        refine zY.getI zfl_X4_44 (by decide : 110 < 150) rfl rfl hO dX4_fewestSteps_32 ?_
        refine zY.as (b := (r : Int)) hp2.2.2.2.2.2 ?_
        refine zY.icmp_gt (tgt := 61) ⟨by omega, by omega⟩ ⟨by omega, by omega⟩ hO dX4_fewestSteps_35 (by decide) (fun c35 => ?_) (fun c35 => ?_)
        ·
          refine zY.iinc1 _ rfl (zc1_P _) hO dX4_fewestSteps_61 ?_
          refine zY.goto (tgt := 20) hO dX4_fewestSteps_64 (by decide) ?_
          refine zY.none2 ?_
          exact ih20 (by omega) _ hq2 (by rw [hI2, show j = r + 1 by omega]; rfl)
        ·
          refine zY.aload_n hO dX4_fewestSteps_38 rfl ?_
          refine zY.iload_n hO dX4_fewestSteps_39 rfl ?_
          refine zY.iload_n hO dX4_fewestSteps_40 rfl ?_
          refine zY.callV2iD (ct_X4_stepsTo (p := 7 * i + j) (by omega) (by omega)) (by decide) zcal_X4_stepsTo zml_X4_80 (by decide : 110 < 150) rfl rfl (Nat.le_of_ble_eq_true rfl) rfl ⟨Nat.zero_le _, Nat.zero_le _⟩ hO dX4_fewestSteps_41 ?_
          have hti : zsti (μ2 126) := by rw [h126]; exact zcer_i (zces_i hsi hc5 hr5 i (by omega)) hc5 hr5 (by omega) j (by omega)
          have htz := hti (7 * i + j) (by omega)
          refine zY.bipush hO dX4_fewestSteps_44 (by decide) ?_
          refine zY.icmp_eq (tgt := 55) ⟨by omega, by omega⟩ ⟨by omega, by omega⟩ hO dX4_fewestSteps_46 (by decide) (fun c46 => ?_) (fun c46 => ?_)
          ·
            refine zY.iinc2 _ rfl (zc1_I _) hO dX4_fewestSteps_55 ?_
            refine zY.goto (tgt := 30) hO dX4_fewestSteps_58 (by decide) ?_
            exact ih30 (by omega) _ hq2 (by simp only [zcer]; unfold zcel; rw [← h126, if_pos c46, h126, hI2])
          ·
            refine zY.aload_n hO dX4_fewestSteps_49 rfl ?_
            refine zY.iload_n hO dX4_fewestSteps_50 rfl ?_
            refine zY.iload_n hO dX4_fewestSteps_51 rfl ?_
            refine zY.callV2v (ct_X4_stepFrom hW ht hp2 (p1 := i) (p2 := j) (by omega) (by omega) hti c46) (by decide) zcal_X4_stepFrom zml_X4_83 (by decide : 110 < 150) rfl rfl (Nat.le_of_ble_eq_true rfl) rfl ⟨Nat.zero_le _, Nat.zero_le _⟩ hO dX4_fewestSteps_52 (fun μ4 hq4 => ?_)
            obtain ⟨h4q, hq4⟩ := hq4
            refine zY.iinc2 _ rfl (zc1_I _) hO dX4_fewestSteps_55 ?_
            refine zY.goto (tgt := 30) hO dX4_fewestSteps_58 (by decide) ?_
            exact ih30 (by omega) _ h4q (by rw [hq4, h126, hI2]; simp only [zcer]; funext q' j'; by_cases e1 : q' = 126 <;> by_cases e2 : q' = 120 <;> simp [zrow, e1, e2])
      exact L30 0 (by omega) μ1 hq hI
  exact L20 0 (by omega) _ (μ 120) (by rw [zrow_self (q := 120) (fun _ => rfl), zwr_row]; funext q' j'; by_cases e : q' = 126 <;> by_cases e2 : j' = 0 <;> simp [zrow, zces, e, e2])

set_option maxRecDepth 100000 in
set_option maxHeartbeats 4000000 in
theorem ct_X4_load {μ : zMem} {D : zBk} {K0 K1 : Option zBk} (hX : zRX D K0 K1 μ) {c : Nat} (h2q : zTwo D c)  : Cv kX4_load 8 150 zSX [zP 110, zP 1, zP 18] μ (fun μ' => zPr D c (zN D - c - 1) μ' ∧ zSame 110 126 μ μ') := by
  refine Ct.of [some (zP 110), some (zP 1), some (zP 18), none] rfl (Nat.le_of_ble_eq_true rfl) (by decide +kernel) (fun Γ ad hO hR => ?_)
  have hNe := zN_eq hX.1
  have hNn : 0 < c ∧ c + 1 < zN D ∧ zN D ≤ 7 := ⟨h2q.1, h2q.2.1, h2q.2.2.1⟩
  have hcol := h2q.col
  obtain ⟨rq, hrq⟩ : ∃ rq : Nat, rq = zN D - c - 1 := ⟨_, rfl⟩
  rw [← hrq] at hR
  refine zY.aload_n hO dX4_load_0 rfl ?_
  refine zY.getR zfl_X4_14 (by decide : 110 < 150) rfl rfl hO dX4_load_1 ?_
  refine zY.aload_n hO dX4_load_4 rfl ?_
  refine zY.callV1v (ct_X0_writeAll zbl_111 hX.1 hX.2.1) (by decide) zcal_X0_writeAll zml_X4_47 (by decide : 111 < 150) rfl rfl (Nat.le_of_ble_eq_true rfl) rfl ⟨Nat.zero_le _, Nat.zero_le _⟩ hO dX4_load_5 (fun μ1 hq1 => ?_)
  obtain ⟨fq, gq, hq1, hq2⟩ := hq1
  refine zY.aload_n hO dX4_load_8 rfl ?_
  refine zY.getR zfl_X4_23 (by decide : 110 < 150) rfl rfl hO dX4_load_9 ?_
  refine zY.aload_n hO dX4_load_12 rfl ?_
  refine zY.callV1v (ct_X7_load zst_116) (by decide) zcal_X7_load zml_X4_51 (by decide : 116 < 150) rfl rfl (Nat.le_of_ble_eq_true rfl) rfl ⟨Nat.zero_le _, Nat.zero_le _⟩ hO dX4_load_13 (fun μ2 hq3 => ?_)
  obtain ⟨f2q, g2q, hq3, hq4⟩ := hq3
  have hsm : zSame 110 126 μ μ2 := by rw [hq3, hq1]; exact (((zSame.rfl'.row (by decide) (by decide)).row (by decide) (by decide)).row (by decide) (by decide)).row (by decide) (by decide)
  have h5q : ∀ x, x < 6 → μ1 5 x = D 5 x := fun x hx => by rw [hq1, zrow_ne (by decide), zrow_ne (by decide)]; exact (hX.2.1.2.1 x hx).2.1
  have hba : zBal D 111 μ2 := hq2.row (fun q h1 h2 => by rw [hq3, zrow_ne (by omega), zrow_ne (by omega)])
  have h118 : ∀ x, x < 6 → μ2 118 x = D 5 x := fun x hx => by rw [hq3, zrow_ne (by decide), zrow_eq, (hq4 x hx).1]; exact h5q x hx
  refine zY.aload_n hO dX4_load_16 rfl ?_
  refine zY.getR zfl_X4_30 (by decide : 110 < 150) rfl rfl hO dX4_load_17 ?_
  refine zY.bipush hO dX4_load_20 (by decide) ?_
  refine zY.callV1vD (ct_X5_fill zrw_121) (by decide) zcal_X5_fill zml_X4_54 (by decide : 121 < 150) rfl rfl (Nat.le_of_ble_eq_true rfl) rfl ⟨Nat.zero_le _, Nat.zero_le _⟩ hO dX4_load_22 ?_
  refine zY.aload_n hO dX4_load_25 rfl ?_
  refine zY.getR zfl_X4_34 (by decide : 110 < 150) rfl rfl hO dX4_load_26 ?_
  refine zY.bipush hO dX4_load_29 (by decide) ?_
  refine zY.callV1vD (ct_X5_fill zrw_123) (by decide) zcal_X5_fill zml_X4_54 (by decide : 123 < 150) rfl rfl (Nat.le_of_ble_eq_true rfl) rfl ⟨Nat.zero_le _, Nat.zero_le _⟩ hO dX4_load_31 ?_
  obtain ⟨μ3, hm3⟩ : ∃ μ3 : zMem, μ3 = zrow (zrow μ2 122 (fun j => if j < 6 then -6 else μ2 122 j)) 124 (fun j => if j < 6 then -6 else zrow μ2 122 (fun j => if j < 6 then -6 else μ2 122 j) 124 j) := ⟨_, rfl⟩
  rw [← hm3]
  have hsm3 : zSame 110 126 μ μ3 := by rw [hm3]; exact (hsm.row (by decide) (by decide)).row (by decide) (by decide)
  have hp3 : zPad D μ3 := hsm3.pad hX.2.2.1 (by decide)
  have hba3 : zBal D 111 μ3 := hba.row (fun q h1 h2 => by rw [hm3, zrow_ne (by omega), zrow_ne (by omega)])
  have h118b : ∀ x, x < 6 → μ3 118 x = D 5 x := fun x hx => by rw [hm3, zrow_ne (by decide), zrow_ne (by decide)]; exact h118 x hx
  refine zY.aload_n hO dX4_load_34 rfl ?_
  refine zY.aload_n hO dX4_load_35 rfl ?_
  refine zY.callV0iD (ct_X3_colon hX.1 hp3) (by decide) zcal_X3_colon zml_X4_57 (by decide : 18 < 150) rfl rfl (Nat.le_of_ble_eq_true rfl) rfl ⟨Nat.zero_le _, Nat.zero_le _⟩ hO dX4_load_36 ?_
  refine zY.as (b := (c : Int)) (by rw [if_neg (by omega)]; exact hcol) ?_
  refine zY.bipush hO dX4_load_39 (by decide) ?_
  refine zY.mmin ⟨by omega, by omega⟩ ⟨by omega, by omega⟩ zmx_X4_63 (Nat.le_of_ble_eq_true rfl) (by decide) rfl ⟨Nat.zero_le _, Nat.zero_le _⟩ hO dX4_load_41 ?_
  refine zY.as (b := (c : Int)) (by omega) ?_
  refine zY.putI zfp_X4_40 (by decide : 110 < 150) rfl rfl hO dX4_load_44 ?_
  refine zY.aload_n hO dX4_load_47 rfl ?_
  refine zY.aload_n hO dX4_load_48 rfl ?_
  refine zY.callV0iD (ct_X3_count) (by decide) zcal_X3_count zml_X4_69 (by decide : 18 < 150) rfl rfl (Nat.le_of_ble_eq_true rfl) rfl ⟨Nat.zero_le _, Nat.zero_le _⟩ hO dX4_load_49 ?_
  refine zY.as (b := (zN D : Int)) (by rw [zwr_ne (by decide)]; exact hp3.2.trans hNe.1) ?_
  refine zY.aload_n hO dX4_load_52 rfl ?_
  refine zY.callV0iD (ct_X3_colon hX.1 (D := D) (by have hs2 : zSame 110 126 μ (zwr μ3 110 5 (c : Int)) := hsm3.wr (by decide) (by decide); exact hs2.pad hX.2.2.1 (by decide))) (by decide) zcal_X3_colon zml_X4_57 (by decide : 18 < 150) rfl rfl (Nat.le_of_ble_eq_true rfl) rfl ⟨Nat.zero_le _, Nat.zero_le _⟩ hO dX4_load_53 ?_
  refine zY.as (b := (c : Int)) (by rw [if_neg (by omega)]; exact hcol) ?_
  refine zY.isub hO dX4_load_56 ?_
  refine zY.iconst hO dX4_load_57 ?_
  refine zY.isub hO dX4_load_58 ?_
  refine zY.bipush hO dX4_load_59 (by decide) ?_
  refine zY.mmin ⟨by omega, by omega⟩ ⟨by omega, by omega⟩ zmx_X4_63 (Nat.le_of_ble_eq_true rfl) (by decide) rfl ⟨Nat.zero_le _, Nat.zero_le _⟩ hO dX4_load_61 ?_
  refine zY.as (b := (rq : Int)) (by omega) ?_
  refine zY.putI zfp_X4_44 (by decide : 110 < 150) rfl rfl hO dX4_load_64 ?_
  obtain ⟨μ4, hm4⟩ : ∃ μ4 : zMem, μ4 = zwr (zwr μ3 110 5 (c : Int)) 110 6 (rq : Int) := ⟨_, rfl⟩
  rw [← hm4]
  have hsm4 : zSame 110 126 μ μ4 := by rw [hm4]; exact (hsm3.wr (by decide) (by decide)).wr (by decide) (by decide)
  have hp4 : zPad D μ4 := hsm4.pad hX.2.2.1 (by decide)
  have hba4 : zBal D 111 μ4 := hba3.row (fun q h1 h2 => by rw [hm4, zwr_ne (by omega), zwr_ne (by omega)])
  have h118c : ∀ x, x < 6 → μ4 118 x = D 5 x := fun x hx => by rw [hm4, zwr_ne (by decide), zwr_ne (by decide)]; exact h118b x hx
  have h110c : μ4 110 5 = (c : Int) := by rw [hm4]; simp [zwr]
  have h110r : μ4 110 6 = (rq : Int) := by rw [hm4]; simp [zwr]
  refine zY.iconst hO dX4_load_67 ?_
  refine zY.istore3 (zc1_P _) hO dX4_load_68 ?_
  have L69 : ∀ i : Nat, i ≤ c → ∀ hq : Nat → Int, (∀ j, j < i → hq j = (zord D j : Int)) → zY Γ (150, zSX, ad, 0, 0) 69 [some (zP 110), some (zP 1), some (zP 18), some (zI (i : Int))] [] (zrow μ4 122 hq) := by
    refine zdown (c) (fun i hi_i ih69 => ?_)
    intro hq hJ
    refine zY.iload_n hO dX4_load_69 rfl ?_
    refine zY.aload_n hO dX4_load_70 rfl ?_
    refine zY.getI zfl_X4_40 (by decide : 110 < 150) rfl rfl hO dX4_load_71 ?_
    refine zY.as (b := (c : Int)) (by rw [zrow_ne (by decide)]; exact h110c) ?_
    refine zY.icmp_ge (tgt := 96) ⟨by omega, by omega⟩ ⟨by omega, by omega⟩ hO dX4_load_74 (by decide) (fun c74 => ?_) (fun c74 => ?_)
    ·
      refine zY.iconst hO dX4_load_96 ?_
      refine zY.istore3 (zc1_P _) hO dX4_load_97 ?_
      have L98 : ∀ j : Nat, j ≤ rq → ∀ gq : Nat → Int, (∀ m, m < j → gq m = (zord D (c + 1 + m) : Int)) → zY Γ (150, zSX, ad, 0, 0) 98 [some (zP 110), some (zP 1), some (zP 18), some (zI (j : Int))] [] (zrow (zrow μ4 122 hq) 124 gq) := by
        refine zdown (rq) (fun j hi_j ih98 => ?_)
        intro gq hJ2
        refine zY.iload_n hO dX4_load_98 rfl ?_
        refine zY.aload_n hO dX4_load_99 rfl ?_
        refine zY.getI zfl_X4_44 (by decide : 110 < 150) rfl rfl hO dX4_load_100 ?_
        refine zY.as (b := (rq : Int)) (by rw [zrow_ne (by decide), zrow_ne (by decide)]; exact h110r) ?_
        refine zY.icmp_ge (tgt := 132) ⟨by omega, by omega⟩ ⟨by omega, by omega⟩ hO dX4_load_103 (by decide) (fun c103 => ?_) (fun c103 => ?_)
        ·
          exact zY.vret rfl ⟨rfl, ⟨⟨hba4.row (fun q h1 h2 => by rw [zrow_ne (by omega), zrow_ne (by omega)]), fun x hx => by
            rw [zrow_ne (by decide), zrow_ne (by decide)]
            exact h118c x hx, fun m hm => by rw [zrow_ne (by decide), zrow_eq]; exact hJ m (by omega), fun m hm => by rw [zrow_eq]; exact hJ2 m (by omega), by rw [zrow_ne (by decide), zrow_ne (by decide)]; exact h110c, by rw [zrow_ne (by decide), zrow_ne (by decide)]; exact h110r⟩, (hsm4.row (by decide) (by decide)).row (by decide) (by decide)⟩⟩ hR hO dX4_load_132
        ·
          refine zY.aload_n hO dX4_load_106 rfl ?_
          refine zY.getR zfl_X4_34 (by decide : 110 < 150) rfl rfl hO dX4_load_107 ?_
          refine zY.iload_n hO dX4_load_110 rfl ?_
          refine zY.aload_n hO dX4_load_111 rfl ?_
          refine zY.aload_n hO dX4_load_112 rfl ?_
          refine zY.getI zfl_X4_40 (by decide : 110 < 150) rfl rfl hO dX4_load_113 ?_
          refine zY.as (b := (c : Int)) (by rw [zrow_ne (by decide), zrow_ne (by decide)]; exact h110c) ?_
          refine zY.iconst hO dX4_load_116 ?_
          refine zY.iadd hO dX4_load_117 ?_
          refine zY.iload_n hO dX4_load_118 rfl ?_
          refine zY.iadd hO dX4_load_119 ?_
          refine zY.as (b := ((c + 1 + j : Nat) : Int)) (by omega) ?_
          refine zY.callV1iD (ct_X3_digitAt (by omega)) (by decide) zcal_X3_digitAt zml_X4_72 (by decide : 18 < 150) rfl rfl (Nat.le_of_ble_eq_true rfl) rfl ⟨Nat.zero_le _, Nat.zero_le _⟩ hO dX4_load_120 ?_
          refine zY.as (b := (zord D (c + 1 + j) : Int)) (by rw [zrow_ne (by decide), zrow_ne (by decide), hp4.1 _ (by omega)]; have := (h2q.2.2.2.2 (c + 1 + j) (by omega) (by omega)).1; omega) ?_
          refine zY.callV2vD (ct_putN zrw_123 (j := j) (by omega)) (by decide) zcal_X5_put zml_X4_76 (by decide : 123 < 150) rfl rfl (Nat.le_of_ble_eq_true rfl) rfl ⟨Nat.zero_le _, Nat.zero_le _⟩ hO dX4_load_123 ?_
          refine zY.iinc3 _ rfl (zc1_P _) hO dX4_load_126 ?_
          refine zY.goto (tgt := 98) hO dX4_load_129 (by decide) ?_
          have hin := ih98 (by omega) (fun m => if m = j then (zord D (c + 1 + j) : Int) else gq m) (fun m hm => by by_cases e : m = j; (· rw [if_pos e, e]); (· rw [if_neg e]; exact hJ2 m (by omega)))
          rw [← zwr_row] at hin
          exact hin
      have hin := L98 0 (by omega) (zrow μ4 122 hq 124) (fun m h => by omega)
      rw [zrow_self (q := 124) (fun _ => rfl)] at hin
      exact hin
    ·
      refine zY.aload_n hO dX4_load_77 rfl ?_
      refine zY.getR zfl_X4_30 (by decide : 110 < 150) rfl rfl hO dX4_load_78 ?_
      refine zY.iload_n hO dX4_load_81 rfl ?_
      refine zY.aload_n hO dX4_load_82 rfl ?_
      refine zY.iload_n hO dX4_load_83 rfl ?_
      refine zY.callV1iD (ct_X3_digitAt (by omega)) (by decide) zcal_X3_digitAt zml_X4_72 (by decide : 18 < 150) rfl rfl (Nat.le_of_ble_eq_true rfl) rfl ⟨Nat.zero_le _, Nat.zero_le _⟩ hO dX4_load_84 ?_
      refine zY.as (b := (zord D i : Int)) (by rw [zrow_ne (by decide), hp4.1 i (by omega)]; have := (h2q.2.2.2.2 i (by omega) (by omega)).1; omega) ?_
      refine zY.callV2vD (ct_putN zrw_121 (j := i) (by omega)) (by decide) zcal_X5_put zml_X4_76 (by decide : 121 < 150) rfl rfl (Nat.le_of_ble_eq_true rfl) rfl ⟨Nat.zero_le _, Nat.zero_le _⟩ hO dX4_load_87 ?_
      refine zY.iinc3 _ rfl (zc1_P _) hO dX4_load_90 ?_
      refine zY.goto (tgt := 69) hO dX4_load_93 (by decide) ?_
      have hin := ih69 (by omega) (fun j => if j = i then (zord D i : Int) else hq j) (fun j hj => by by_cases e : j = i; (· rw [if_pos e, e]); (· rw [if_neg e]; exact hJ j (by omega)))
      rw [← zwr_row] at hin
      exact hin
  have hin := L69 0 (by omega) (μ4 122) (fun j h => by omega)
  rw [zrow_self (fun _ => rfl)] at hin
  exact hin

set_option maxRecDepth 100000 in
set_option maxHeartbeats 4000000 in
theorem ct_X10_presses {μ : zMem} {D : zBk} {K0 K1 : Option zBk} (hX : zRX D K0 K1 μ)  : Ci kX10_presses 9 150 zSX [zP 0] μ (fun a μ' => a = zA_presses D ∧ zSame 110 126 μ μ') := by
  refine Ct.of [some (zP 0)] rfl (Nat.le_of_ble_eq_true rfl) (by decide +kernel) (fun Γ ad hO hR => ?_)
  refine zY.aload_n hO dX10_presses_0 rfl ?_
  refine zY.iconst hO dX10_presses_1 ?_
  refine zY.callV1iD (ct_X10_faultAs hX (by decide) (by decide)) (by decide) zcal_X10_faultAs zml_X10_85 (by decide : 0 < 150) rfl rfl (Nat.le_of_ble_eq_true rfl) rfl ⟨Nat.zero_le _, Nat.zero_le _⟩ hO dX10_presses_2 ?_
  refine zY.bipush hO dX10_presses_5 (by decide) ?_
  refine zY.icmp_eq (tgt := 13) (zflt_b hX.1 3) ⟨by omega, by omega⟩ hO dX10_presses_7 (by decide) (fun c7 => ?_) (fun c7 => ?_)
  ·
    obtain ⟨cq, hcq⟩ := zTwo_of c7
    refine zY.aload_n hO dX10_presses_13 rfl ?_
    refine zY.getR zfl_X10_66 (by decide : 0 < 150) rfl rfl hO dX10_presses_14 ?_
    refine zY.aload_n hO dX10_presses_17 rfl ?_
    refine zY.getR zfl_X10_10 (by decide : 0 < 150) rfl rfl hO dX10_presses_18 ?_
    refine zY.aload_n hO dX10_presses_21 rfl ?_
    refine zY.getR zfl_X10_19 (by decide : 0 < 150) rfl rfl hO dX10_presses_22 ?_
    refine zY.callV2v (ct_X4_load hX hcq) (by decide) zcal_X4_load zml_X10_181 (by decide : 110 < 150) rfl rfl (Nat.le_of_ble_eq_true rfl) rfl ⟨Nat.zero_le _, Nat.zero_le _⟩ hO dX10_presses_25 (fun μ1 hq1 => ?_)
    obtain ⟨hp1, hsm1⟩ := hq1
    refine zY.aload_n hO dX10_presses_28 rfl ?_
    refine zY.getR zfl_X10_66 (by decide : 0 < 150) rfl rfl hO dX10_presses_29 ?_
    refine zY.callV0i (ct_X4_fewestSteps hX.1 hcq.tw hp1) (by decide) zcal_X4_fewestSteps zml_X10_182 (by decide : 110 < 150) rfl rfl (Nat.le_of_ble_eq_true rfl) rfl ⟨Nat.zero_le _, Nat.zero_le _⟩ hO dX10_presses_32 (fun aq μ3 hq4 => ?_)
    obtain ⟨rfl, h3q, g3q, hq5⟩ := hq4
    exact zY.iret rfl ⟨_, rfl, ⟨by unfold zA_presses; rw [if_pos c7, hcq.col, Int.toNat_natCast], by rw [hq5]; exact (hsm1.row (by decide) (by decide)).row (by decide) (by decide)⟩⟩ hR hO dX10_presses_35
  ·
    refine zY.bipush hO dX10_presses_10 (by decide) ?_
    exact zY.iret rfl ⟨_, rfl, ⟨by unfold zA_presses; rw [if_neg c7], zSame.rfl'⟩⟩ hR hO dX10_presses_12
