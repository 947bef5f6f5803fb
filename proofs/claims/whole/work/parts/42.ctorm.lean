/-! constructors, II -/
theorem zcht_f : ∀ n : Nat, n < 11 → ∀ k : Nat, k < 7 → (k = 0 → zcht (7 * n + k) = 1) ∧ (1 ≤ k → k ≤ n → zcht (7 * n + k) = zcht (7 * (n - 1) + k) + zcht (7 * (n - 1) + k - 1)) ∧ (n < k → zcht (7 * n + k) = 0) := by decide +kernel

set_option maxRecDepth 100000 in
set_option maxHeartbeats 4000000 in
theorem cn_X1_96 {sh : Nat → zShc} {μ : zMem} (hs0 : zsok 96 sh)  : Cn kX1_init 8 97 (zu 96 1 [(3, 0), (3, 0), (3, 0), (3, 0), (1, 0), (2, 0)] sh) [zP 96] μ 110 (zd 96 sh) 13 3248 (fun μ' => zCho μ' ∧ ∀ q, q < 96 → μ' q = μ q) := by
  refine Cn.of [some (zP 96), none, none, none] rfl (Nat.le_of_ble_eq_true rfl) (by decide +kernel) rfl (fun Γ ad sz hO hG hN hR => ?_)
  have had : zag 97 ad ad := zag.rfl'
  have hk : ∀ q, q < 96 → μ q = μ q := fun _ _ => rfl
  refine zY.aload_n hO dX1_init_0 rfl ?_
  refine zY.objI zml_X1_3 (by decide) rfl (Nat.le_of_ble_eq_true rfl) hO dX1_init_1 ?_
  refine zY.aload_n hO dX1_init_4 rfl ?_
  refine zY.new (sh' := (zu 97 0 [(3, 0), (3, 0)] (zu 96 1 [(3, 0), (3, 0), (3, 0), (3, 0), (1, 0), (2, 0)] sh))) (n1 := 98) (c1 := 1) (s1 := 2) zkk_X1_9 hG had (by decide) (by decide) (zsok_zu hs0 (by decide) (by decide +kernel)) zu_eq (fun q h => zu_lt h) (zlwL_some (zlw_P (Or.inl (by decide))) (zlwL_none (zlwL_none (zlwL_none zlwL_nil)))) (zlwS_cons (zlw_P (Or.inl (by decide))) zlwS_nil) rfl rfl rfl ⟨by decide, by decide⟩ hO dX1_init_5 (fun ad1 had => ?_)
  refine zY.dup rfl hO dX1_init_8 ?_
  refine zY.sipush hO dX1_init_9 (by decide) ?_
  refine zY.callI1 (n' := 102) (sh' := (zu 96 1 [(3, 0), (3, 0), (3, 0), (3, 0), (1, 0), (2, 0)] sh)) (c1 := 5) (s1 := 2692) (cn_X0_97 (zsok_zu hs0 (by decide) (by decide +kernel)) (by omega)) (by decide) zcal_X0_init rfl rfl zml_X1_13 (Nat.le_of_ble_eq_true rfl) rfl hG had (by decide) (fun q _ => zd_zu (by decide) q) (zlwL_some (zlw_P (Or.inl (by decide))) (zlwL_none (zlwL_none (zlwL_none zlwL_nil)))) (zlwS_cons (zlw_P (Or.inl (by decide))) (zlwS_cons (zlw_P (Or.inl (by decide))) zlwS_nil)) rfl rfl ⟨by decide, by decide⟩ hO dX1_init_12 (fun ad2 μ2 had hq2 => ?_)
  have hkq2 := hq2
  have hk : ∀ q, q < 96 → μ2 q = μ q := fun q h => Eq.trans (b := μ q) (by rw [hkq2 q (by omega), zrow_ne (by omega)]) (hk q h)
  refine zY.putF (p := 96) (fl := [(3, 0), (3, 0), (3, 0), (3, 0), (1, 0), (2, 0)]) (fl' := [(0, 97), (3, 0), (3, 0), (3, 0), (1, 0), (2, 0)]) zFF_X1_16 hN (by decide) (by decide) rfl hO dX1_init_15 ?_
  refine zY.aload_n hO dX1_init_18 rfl ?_
  refine zY.new (sh' := (zu 102 7 [(3, 0), (3, 0)] (zu 96 1 [(0, 97), (3, 0), (3, 0), (3, 0), (1, 0), (2, 0)] sh))) (n1 := 103) (c1 := 6) (s1 := 2694) zkk_X1_20 hG had (by decide) (by decide) (zsok_zu hs0 (by decide) (by decide +kernel)) zu_eq (fun q h => zu_lt h) (zlwL_some (zlw_P (Or.inl (by decide))) (zlwL_none (zlwL_none (zlwL_none zlwL_nil)))) (zlwS_cons (zlw_P (Or.inl (by decide))) zlwS_nil) rfl rfl rfl ⟨by decide, by decide⟩ hO dX1_init_19 (fun ad3 had => ?_)
  refine zY.dup rfl hO dX1_init_22 ?_
  refine zY.callIN0 (n' := 107) (sh' := (zu 96 1 [(0, 97), (3, 0), (3, 0), (3, 0), (1, 0), (2, 0)] sh)) (c1 := 10) (s1 := 2708) (cn_X7_102 (zsok_zu hs0 (by decide) (by decide +kernel))) (by decide) zcal_X7_init rfl rfl zmn_X1_22 (Nat.le_of_ble_eq_true rfl) rfl hG had (by decide) (fun q _ => zd_zu (by decide) q) (zlwL_some (zlw_P (Or.inl (by decide))) (zlwL_none (zlwL_none (zlwL_none zlwL_nil)))) (zlwS_cons (zlw_P (Or.inl (by decide))) (zlwS_cons (zlw_P (Or.inl (by decide))) zlwS_nil)) rfl rfl ⟨by decide, by decide⟩ hO dX1_init_23 (fun ad4 μ4 had hq4 => ?_)
  have hkq4 := hq4
  have hk : ∀ q, q < 96 → μ4 q = μ q := fun q h => Eq.trans (b := μ2 q) (by rw [hkq4 q (by omega), zrow_ne (by omega)]) (hk q h)
  refine zY.putF (p := 96) (fl := [(0, 97), (3, 0), (3, 0), (3, 0), (1, 0), (2, 0)]) (fl' := [(0, 97), (0, 102), (3, 0), (3, 0), (1, 0), (2, 0)]) zFF_X1_23 hN (by decide) (by decide) rfl hO dX1_init_26 ?_
  refine zY.aload_n hO dX1_init_29 rfl ?_
  refine zY.new (sh' := (zu 107 5 [(3, 0)] (zu 96 1 [(0, 97), (0, 102), (3, 0), (3, 0), (1, 0), (2, 0)] sh))) (n1 := 108) (c1 := 11) (s1 := 2709) zkk_X1_27 hG had (by decide) (by decide) (zsok_zu hs0 (by decide) (by decide +kernel)) zu_eq (fun q h => zu_lt h) (zlwL_some (zlw_P (Or.inl (by decide))) (zlwL_none (zlwL_none (zlwL_none zlwL_nil)))) (zlwS_cons (zlw_P (Or.inl (by decide))) zlwS_nil) rfl rfl rfl ⟨by decide, by decide⟩ hO dX1_init_30 (fun ad5 had => ?_)
  refine zY.dup rfl hO dX1_init_33 ?_
  refine zY.bipush hO dX1_init_34 (by decide) ?_
  refine zY.callI1 (n' := 109) (sh' := (zu 96 1 [(0, 97), (0, 102), (3, 0), (3, 0), (1, 0), (2, 0)] sh)) (c1 := 12) (s1 := 2786) (cn_X5 zrw_107 rfl (zsok_zu hs0 (by decide) (by decide +kernel)) (len := 77) (by omega)) (by decide) zcal_X5_init rfl rfl zml_X1_29 (Nat.le_of_ble_eq_true rfl) rfl hG had (by decide) (fun q _ => zd_zu (by decide) q) (zlwL_some (zlw_P (Or.inl (by decide))) (zlwL_none (zlwL_none (zlwL_none zlwL_nil)))) (zlwS_cons (zlw_P (Or.inl (by decide))) (zlwS_cons (zlw_P (Or.inl (by decide))) zlwS_nil)) rfl rfl ⟨by decide, by decide⟩ hO dX1_init_36 (fun ad6 μ6 had hq6 => ?_)
  have hk : ∀ q, q < 96 → μ6 q = μ q := fun q h => Eq.trans (b := μ4 q) (by rw [hq6, zrow_ne (by omega), zrow_ne (by omega)]) (hk q h)
  refine zY.putF (p := 96) (fl := [(0, 97), (0, 102), (3, 0), (3, 0), (1, 0), (2, 0)]) (fl' := [(0, 97), (0, 102), (0, 107), (3, 0), (1, 0), (2, 0)]) zFF_X1_30 hN (by decide) (by decide) rfl hO dX1_init_39 ?_
  refine zY.aload_n hO dX1_init_42 rfl ?_
  refine zY.sipush hO dX1_init_43 (by decide) ?_
  refine zY.newJ (sh' := (zu 96 1 [(0, 97), (0, 102), (0, 107), (3, 0), (1, 0), (2, 0)] sh)) (len := 462) (n1 := 110) (c1 := 13) (s1 := 3248) (by omega) (by decide) hG had (by decide) (by decide) (zsok_zu hs0 (by decide) (by decide +kernel)) ((zu_gt (by decide)).trans rfl) (fun _ _ => rfl) (zlwL_some (zlw_P (Or.inl (by decide))) (zlwL_none (zlwL_none (zlwL_none zlwL_nil)))) (zlwS_cons (zlw_P (Or.inl (by decide))) zlwS_nil) rfl rfl rfl ⟨by decide, by decide⟩ hO dX1_init_46 (fun ad7 had => ?_)
  obtain ⟨μ7, hm7⟩ : ∃ μ7 : zMem, μ7 = zrow μ6 109 (fun _ => 0) := ⟨_, rfl⟩
  rw [← hm7]
  have hk : ∀ q, q < 96 → μ7 q = μ q := fun q h => Eq.trans (b := μ6 q) (by rw [hm7, zrow_ne (by omega)]) (hk q h)
  refine zY.putF (p := 96) (fl := [(0, 97), (0, 102), (0, 107), (3, 0), (1, 0), (2, 0)]) (fl' := [(0, 97), (0, 102), (0, 107), (0, 109), (1, 0), (2, 0)]) zFF_X1_34 hN (by decide) (by decide) rfl hO dX1_init_48 ?_
  refine zY.aload_n hO dX1_init_51 rfl ?_
  refine zY.iconst hO dX1_init_52 ?_
  refine zY.putI zfp_X1_38 (by decide : 96 < 110) (zu_eq : (zu 96 1 [(0, 97), (0, 102), (0, 107), (0, 109), (1, 0), (2, 0)] sh) 96 = (0, 1, [(0, 97), (0, 102), (0, 107), (0, 109), (1, 0), (2, 0)])) rfl hO dX1_init_53 ?_
  refine zY.aload_n hO dX1_init_56 rfl ?_
  refine zY.ldc2 hO zcl_X1_42 dX1_init_57 ?_
  refine zY.putJ zfp_X1_44 (by decide : 96 < 110) (zu_eq : (zu 96 1 [(0, 97), (0, 102), (0, 107), (0, 109), (1, 0), (2, 0)] sh) 96 = (0, 1, [(0, 97), (0, 102), (0, 107), (0, 109), (1, 0), (2, 0)])) rfl hO dX1_init_60 ?_
  refine zY.iconst hO dX1_init_63 ?_
  refine zY.istore1 (zc1_P _) hO dX1_init_64 ?_
  have L65 : ∀ i : Nat, i ≤ 11 → ∀ μ1 : zMem, (∀ q, q < 96 → μ1 q = μ q) → (∀ j, j < 77 → μ1 108 j = if j < 7 * i then zcht j else 0) → zY Γ (110, (zu 96 1 [(0, 97), (0, 102), (0, 107), (0, 109), (1, 0), (2, 0)] sh), ad7, 13, 3248) 65 [some (zP 96), some (zI (i : Int)), none, none] [] μ1 := by
    refine zdown (11) (fun i hi_i ih65 => ?_)
    intro μ1 hK1 hJ
    refine zY.iload_n hO dX1_init_65 rfl ?_
    refine zY.bipush hO dX1_init_66 (by decide) ?_
    refine zY.icmp_ge (tgt := 148) ⟨by omega, by omega⟩ ⟨by omega, by omega⟩ hO dX1_init_68 (by decide) (fun c68 => ?_) (fun c68 => ?_)
    ·
      exact zY.cret rfl hR (⟨fun j hj => by rw [hJ j hj, if_pos (by omega)], hK1⟩) had rfl (fun q _ => zu_zd rfl q) rfl rfl hO dX1_init_148
    ·
      refine zY.aload_n hO dX1_init_71 rfl ?_
      refine zY.getR zfl_X1_30 (by decide : 96 < 110) (zu_eq : (zu 96 1 [(0, 97), (0, 102), (0, 107), (0, 109), (1, 0), (2, 0)] sh) 96 = (0, 1, [(0, 97), (0, 102), (0, 107), (0, 109), (1, 0), (2, 0)])) rfl hO dX1_init_72 ?_
      refine zY.iload_n hO dX1_init_75 rfl ?_
      refine zY.bipush hO dX1_init_76 (by decide) ?_
      refine zY.imul hO dX1_init_78 ?_
      refine zY.iconst hO dX1_init_79 ?_
      refine zY.as2 (b := ((7 * i : Nat) : Int)) (by omega) ?_
      refine zY.callV2vD (ct_putN (⟨by decide, (zu_gt (by decide)).trans rfl, by decide, (zu_gt (by decide)).trans rfl, by decide⟩ : zRow 110 (zu 96 1 [(0, 97), (0, 102), (0, 107), (0, 109), (1, 0), (2, 0)] sh) 107 108 77) (j := 7 * i) (by omega)) (by decide) zcal_X5_put zml_X1_48 (by decide : 107 < 110) ((zu_gt (by decide)).trans rfl : (zu 96 1 [(0, 97), (0, 102), (0, 107), (0, 109), (1, 0), (2, 0)] sh) 107 = (0, 5, [(0, 108)])) rfl (Nat.le_of_ble_eq_true rfl) rfl (hG.le (c := 13) (s := 3248) (by decide) (by decide)) hO dX1_init_80 ?_
      have hc0 := (zcht_f i (by omega) 0 (by omega)).1 rfl
      refine zY.iconst hO dX1_init_83 ?_
      refine zY.istore2 (zc1_I _) hO dX1_init_84 ?_
      have L85 : ∀ k : Nat, k ≤ 7 → 1 ≤ k → k ≤ i + 1 → ∀ μ2 : zMem, (∀ q, q < 96 → μ2 q = μ q) → (∀ j, j < 77 → μ2 108 j = if j < 7 * i + k then zcht j else 0) → zY Γ (110, (zu 96 1 [(0, 97), (0, 102), (0, 107), (0, 109), (1, 0), (2, 0)] sh), ad7, 13, 3248) 85 [some (zP 96), some (zI (i : Int)), some (zI (k : Int)), none] [] μ2 := by
        refine zdown (7) (fun k hi_k ih85 => ?_)
        intro hk1 hki μ2 hK2 hJ2
        refine zY.iload_n hO dX1_init_85 rfl ?_
        refine zY.iload_n hO dX1_init_86 rfl ?_
        refine zY.bipush hO dX1_init_87 (by decide) ?_
        refine zY.mmin ⟨by omega, by omega⟩ ⟨by omega, by omega⟩ zmx_X1_52 (Nat.le_of_ble_eq_true rfl) (by decide) rfl (hG.le (c := 13) (s := 3248) (by decide) (by decide)) hO dX1_init_89 ?_
        refine zY.icmp_gt (tgt := 142) ⟨by omega, by omega⟩ ⟨by omega, by omega⟩ hO dX1_init_92 (by decide) (fun c92 => ?_) (fun c92 => ?_)
        ·
          refine zY.iinc1 _ rfl (zc1_P _) hO dX1_init_142 ?_
          refine zY.goto (tgt := 65) hO dX1_init_145 (by decide) ?_
          refine zY.none2 ?_
          exact ih65 (by omega) μ2 hK2 (fun j hj => by
            rw [hJ2 j hj]
            by_cases e2 : j < 7 * i + k
            · rw [if_pos e2, if_pos (by omega)]
            · rw [if_neg e2]
              by_cases e3 : j < 7 * (i + 1)
              · rw [if_pos e3]
                have hcf := (zcht_f i (by omega) (j - 7 * i) (by omega)).2.2 (by omega)
                rw [show 7 * i + (j - 7 * i) = j by omega] at hcf
                exact hcf.symm
              · rw [if_neg e3])
        ·
          refine zY.iload_n hO dX1_init_95 rfl ?_
          refine zY.iconst hO dX1_init_96 ?_
          refine zY.isub hO dX1_init_97 ?_
          refine zY.bipush hO dX1_init_98 (by decide) ?_
          refine zY.imul hO dX1_init_100 ?_
          refine zY.iload_n hO dX1_init_101 rfl ?_
          refine zY.iadd hO dX1_init_102 ?_
          refine zY.istore3 (zc1_I _) hO dX1_init_103 ?_
          refine zY.aload_n hO dX1_init_104 rfl ?_
          refine zY.getR zfl_X1_30 (by decide : 96 < 110) (zu_eq : (zu 96 1 [(0, 97), (0, 102), (0, 107), (0, 109), (1, 0), (2, 0)] sh) 96 = (0, 1, [(0, 97), (0, 102), (0, 107), (0, 109), (1, 0), (2, 0)])) rfl hO dX1_init_105 ?_
          refine zY.iload_n hO dX1_init_108 rfl ?_
          refine zY.bipush hO dX1_init_109 (by decide) ?_
          refine zY.imul hO dX1_init_111 ?_
          refine zY.iload_n hO dX1_init_112 rfl ?_
          refine zY.iadd hO dX1_init_113 ?_
          refine zY.aload_n hO dX1_init_114 rfl ?_
          refine zY.getR zfl_X1_30 (by decide : 96 < 110) (zu_eq : (zu 96 1 [(0, 97), (0, 102), (0, 107), (0, 109), (1, 0), (2, 0)] sh) 96 = (0, 1, [(0, 97), (0, 102), (0, 107), (0, 109), (1, 0), (2, 0)])) rfl hO dX1_init_115 ?_
          refine zY.iload_n hO dX1_init_118 rfl ?_
          refine zY.as (b := ((7 * (i - 1) + k : Nat) : Int)) (by omega) ?_
          refine zY.callV1iD (ct_atN (⟨by decide, (zu_gt (by decide)).trans rfl, by decide, (zu_gt (by decide)).trans rfl, by decide⟩ : zRow 110 (zu 96 1 [(0, 97), (0, 102), (0, 107), (0, 109), (1, 0), (2, 0)] sh) 107 108 77) (j := 7 * (i - 1) + k) (by omega)) (by decide) zcal_X5_at zml_X1_58 (by decide : 107 < 110) ((zu_gt (by decide)).trans rfl : (zu 96 1 [(0, 97), (0, 102), (0, 107), (0, 109), (1, 0), (2, 0)] sh) 107 = (0, 5, [(0, 108)])) rfl (Nat.le_of_ble_eq_true rfl) rfl (hG.le (c := 13) (s := 3248) (by decide) (by decide)) hO dX1_init_119 ?_
          refine zY.aload_n hO dX1_init_122 rfl ?_
          refine zY.getR zfl_X1_30 (by decide : 96 < 110) (zu_eq : (zu 96 1 [(0, 97), (0, 102), (0, 107), (0, 109), (1, 0), (2, 0)] sh) 96 = (0, 1, [(0, 97), (0, 102), (0, 107), (0, 109), (1, 0), (2, 0)])) rfl hO dX1_init_123 ?_
          refine zY.iload_n hO dX1_init_126 rfl ?_
          refine zY.iconst hO dX1_init_127 ?_
          refine zY.isub hO dX1_init_128 ?_
          refine zY.as (b := ((7 * (i - 1) + k - 1 : Nat) : Int)) (by omega) ?_
          refine zY.callV1iD (ct_atN (⟨by decide, (zu_gt (by decide)).trans rfl, by decide, (zu_gt (by decide)).trans rfl, by decide⟩ : zRow 110 (zu 96 1 [(0, 97), (0, 102), (0, 107), (0, 109), (1, 0), (2, 0)] sh) 107 108 77) (j := 7 * (i - 1) + k - 1) (by omega)) (by decide) zcal_X5_at zml_X1_58 (by decide : 107 < 110) ((zu_gt (by decide)).trans rfl : (zu 96 1 [(0, 97), (0, 102), (0, 107), (0, 109), (1, 0), (2, 0)] sh) 107 = (0, 5, [(0, 108)])) rfl (Nat.le_of_ble_eq_true rfl) rfl (hG.le (c := 13) (s := 3248) (by decide) (by decide)) hO dX1_init_129 ?_
          refine zY.iadd hO dX1_init_132 ?_
          refine zY.as2 (b := ((7 * i + k : Nat) : Int)) (by omega) ?_
          refine zY.callV2vD (ct_putN (⟨by decide, (zu_gt (by decide)).trans rfl, by decide, (zu_gt (by decide)).trans rfl, by decide⟩ : zRow 110 (zu 96 1 [(0, 97), (0, 102), (0, 107), (0, 109), (1, 0), (2, 0)] sh) 107 108 77) (j := 7 * i + k) (by omega)) (by decide) zcal_X5_put zml_X1_48 (by decide : 107 < 110) ((zu_gt (by decide)).trans rfl : (zu 96 1 [(0, 97), (0, 102), (0, 107), (0, 109), (1, 0), (2, 0)] sh) 107 = (0, 5, [(0, 108)])) rfl (Nat.le_of_ble_eq_true rfl) rfl (hG.le (c := 13) (s := 3248) (by decide) (by decide)) hO dX1_init_133 ?_
          refine zY.iinc2 _ rfl (zc1_I _) hO dX1_init_136 ?_
          refine zY.goto (tgt := 85) hO dX1_init_139 (by decide) ?_
          refine zY.none3 ?_
          have hcf := (zcht_f i (by omega) k (by omega)).2.1 (by omega) (by omega)
          exact ih85 (by omega) (by omega) (by omega) _ (fun q h => by rw [zwr_ne (by omega)]; exact hK2 q h) (fun j hj => by
            show (if 108 = 108 then (if j = 7 * i + k then _ else μ2 108 j) else μ2 108 j) = _
            rw [if_pos rfl, hJ2 j hj]
            by_cases e1 : j = 7 * i + k
            · rw [if_pos e1, if_pos (by omega), e1, hJ2 _ (by omega), hJ2 _ (by omega), if_pos (by omega), if_pos (by omega)]; exact hcf.symm
            · rw [if_neg e1]
              by_cases e2 : j < 7 * i + k
              · rw [if_pos e2, if_pos (by omega)]
              · rw [if_neg e2, if_neg (by omega)])
      exact L85 1 (by omega) (by omega) (by omega) _ (fun q h => by rw [zwr_ne (by omega)]; exact hK1 q h) (fun j hj => by
        show (if 108 = 108 then (if j = 7 * i then 1 else μ1 108 j) else μ1 108 j) = _
        rw [if_pos rfl, hJ j hj]
        by_cases e1 : j = 7 * i
        · rw [if_pos e1, if_pos (by omega), e1]; exact hc0.symm
        · rw [if_neg e1]
          by_cases e2 : j < 7 * i
          · rw [if_pos e2, if_pos (by omega)]
          · rw [if_neg e2, if_neg (by omega)])
  exact L65 0 (by omega) _ (fun q h => by rw [zwr_ne (by omega), zwr_ne (by omega)]; exact hk q h) (fun j hj => by rw [zwr_ne (by decide), zwr_ne (by decide), hm7, zrow_ne (by decide), hq6, zrow_eq]; simp)

set_option maxRecDepth 100000 in
set_option maxHeartbeats 4000000 in
theorem cn_X10_0 {sh : Nat → zShc} {μ : zMem} (hs0 : zsok 0 sh)  : Cn kX10_init 10 1 (zu 0 10 [(3, 0), (3, 0), (3, 0), (3, 0), (3, 0), (3, 0), (3, 0), (3, 0), (3, 0)] sh) [zP 0] μ 127 (zd 0 sh) 126 4158 (fun μ' => zRX zD0 none none μ' ∧ zCho μ') := by
  refine Cn.of [some (zP 0)] rfl (Nat.le_of_ble_eq_true rfl) (by decide +kernel) rfl (fun Γ ad sz hO hG hN hR => ?_)
  have had : zag 1 ad ad := zag.rfl'
  have hk : ∀ q, q < 0 → μ q = μ q := fun _ _ => rfl
  refine zY.aload_n hO dX10_init_0 rfl ?_
  refine zY.objI zml_X10_1 (by decide) rfl (Nat.le_of_ble_eq_true rfl) hO dX10_init_1 ?_
  refine zY.aload_n hO dX10_init_4 rfl ?_
  refine zY.new (sh' := (zu 1 6 [(3, 0), (3, 0), (3, 0), (3, 0), (3, 0), (3, 0), (3, 0), (3, 0)] (zu 0 10 [(3, 0), (3, 0), (3, 0), (3, 0), (3, 0), (3, 0), (3, 0), (3, 0), (3, 0)] sh))) (n1 := 2) (c1 := 1) (s1 := 8) zkk_X10_7 hG had (by decide) (by decide) (zsok_zu hs0 (by decide) (by decide +kernel)) zu_eq (fun q h => zu_lt h) (zlwL_some (zlw_P (Or.inl (by decide))) zlwL_nil) (zlwS_cons (zlw_P (Or.inl (by decide))) zlwS_nil) rfl rfl rfl ⟨by decide, by decide⟩ hO dX10_init_5 (fun ad1 had => ?_)
  refine zY.dup rfl hO dX10_init_8 ?_
  refine zY.callI0 (n' := 18) (sh' := (zu 0 10 [(3, 0), (3, 0), (3, 0), (3, 0), (3, 0), (3, 0), (3, 0), (3, 0), (3, 0)] sh)) (c1 := 17) (s1 := 156) (cn_X6_1 (zsok_zu hs0 (by decide) (by decide +kernel))) (by decide) zcal_X6_init rfl rfl zml_X10_9 (Nat.le_of_ble_eq_true rfl) rfl hG had (by decide) (fun q _ => zd_zu (by decide) q) (zlwL_some (zlw_P (Or.inl (by decide))) zlwL_nil) (zlwS_cons (zlw_P (Or.inl (by decide))) (zlwS_cons (zlw_P (Or.inl (by decide))) zlwS_nil)) rfl rfl ⟨by decide, by decide⟩ hO dX10_init_9 (fun ad2 μ2 had hq2 => ?_)
  have hkq2 := hq2.2
  have hk : ∀ q, q < 0 → μ2 q = μ q := fun q h => Eq.trans (b := μ q) (by rw [hkq2 q (by omega), zrow_ne (by omega)]) (hk q h)
  refine zY.putF (p := 0) (fl := [(3, 0), (3, 0), (3, 0), (3, 0), (3, 0), (3, 0), (3, 0), (3, 0), (3, 0)]) (fl' := [(0, 1), (3, 0), (3, 0), (3, 0), (3, 0), (3, 0), (3, 0), (3, 0), (3, 0)]) zFF_X10_10 hN (by decide) (by decide) rfl hO dX10_init_12 ?_
  refine zY.aload_n hO dX10_init_15 rfl ?_
  refine zY.new (sh' := (zu 18 3 [(3, 0), (1, 0)] (zu 0 10 [(0, 1), (3, 0), (3, 0), (3, 0), (3, 0), (3, 0), (3, 0), (3, 0), (3, 0)] sh))) (n1 := 19) (c1 := 18) (s1 := 158) zkk_X10_16 hG had (by decide) (by decide) (zsok_zu hs0 (by decide) (by decide +kernel)) zu_eq (fun q h => zu_lt h) (zlwL_some (zlw_P (Or.inl (by decide))) zlwL_nil) (zlwS_cons (zlw_P (Or.inl (by decide))) zlwS_nil) rfl rfl rfl ⟨by decide, by decide⟩ hO dX10_init_16 (fun ad3 had => ?_)
  refine zY.dup rfl hO dX10_init_19 ?_
  refine zY.callIN0 (n' := 21) (sh' := (zu 0 10 [(0, 1), (3, 0), (3, 0), (3, 0), (3, 0), (3, 0), (3, 0), (3, 0), (3, 0)] sh)) (c1 := 20) (s1 := 173) (cn_X3_18 (zsok_zu hs0 (by decide) (by decide +kernel))) (by decide) zcal_X3_init rfl rfl zmn_X10_18 (Nat.le_of_ble_eq_true rfl) rfl hG had (by decide) (fun q _ => zd_zu (by decide) q) (zlwL_some (zlw_P (Or.inl (by decide))) zlwL_nil) (zlwS_cons (zlw_P (Or.inl (by decide))) (zlwS_cons (zlw_P (Or.inl (by decide))) zlwS_nil)) rfl rfl ⟨by decide, by decide⟩ hO dX10_init_20 (fun ad4 μ4 had hq4 => ?_)
  have hkq4 := hq4.2
  have hk : ∀ q, q < 0 → μ4 q = μ q := fun q h => Eq.trans (b := μ2 q) (by rw [hkq4 q (by omega), zrow_ne (by omega)]) (hk q h)
  refine zY.putF (p := 0) (fl := [(0, 1), (3, 0), (3, 0), (3, 0), (3, 0), (3, 0), (3, 0), (3, 0), (3, 0)]) (fl' := [(0, 1), (0, 18), (3, 0), (3, 0), (3, 0), (3, 0), (3, 0), (3, 0), (3, 0)]) zFF_X10_19 hN (by decide) (by decide) rfl hO dX10_init_23 ?_
  refine zY.aload_n hO dX10_init_26 rfl ?_
  refine zY.new (sh' := (zu 21 2 [(3, 0), (1, 0)] (zu 0 10 [(0, 1), (0, 18), (3, 0), (3, 0), (3, 0), (3, 0), (3, 0), (3, 0), (3, 0)] sh))) (n1 := 22) (c1 := 21) (s1 := 175) zkk_X10_23 hG had (by decide) (by decide) (zsok_zu hs0 (by decide) (by decide +kernel)) zu_eq (fun q h => zu_lt h) (zlwL_some (zlw_P (Or.inl (by decide))) zlwL_nil) (zlwS_cons (zlw_P (Or.inl (by decide))) zlwS_nil) rfl rfl rfl ⟨by decide, by decide⟩ hO dX10_init_27 (fun ad5 had => ?_)
  refine zY.dup rfl hO dX10_init_30 ?_
  refine zY.callIN0 (n' := 39) (sh' := (zu 0 10 [(0, 1), (0, 18), (3, 0), (3, 0), (3, 0), (3, 0), (3, 0), (3, 0), (3, 0)] sh)) (c1 := 38) (s1 := 331) (cn_X2_21 (zsok_zu hs0 (by decide) (by decide +kernel))) (by decide) zcal_X2_init rfl rfl zmn_X10_25 (Nat.le_of_ble_eq_true rfl) rfl hG had (by decide) (fun q _ => zd_zu (by decide) q) (zlwL_some (zlw_P (Or.inl (by decide))) zlwL_nil) (zlwS_cons (zlw_P (Or.inl (by decide))) (zlwS_cons (zlw_P (Or.inl (by decide))) zlwS_nil)) rfl rfl ⟨by decide, by decide⟩ hO dX10_init_31 (fun ad6 μ6 had hq6 => ?_)
  have hkq6 := hq6.2
  have hk : ∀ q, q < 0 → μ6 q = μ q := fun q h => Eq.trans (b := μ4 q) (by rw [hkq6 q (by omega), zrow_ne (by omega)]) (hk q h)
  refine zY.putF (p := 0) (fl := [(0, 1), (0, 18), (3, 0), (3, 0), (3, 0), (3, 0), (3, 0), (3, 0), (3, 0)]) (fl' := [(0, 1), (0, 18), (0, 21), (3, 0), (3, 0), (3, 0), (3, 0), (3, 0), (3, 0)]) zFF_X10_26 hN (by decide) (by decide) rfl hO dX10_init_34 ?_
  refine zY.aload_n hO dX10_init_37 rfl ?_
  refine zY.new (sh' := (zu 39 2 [(3, 0), (1, 0)] (zu 0 10 [(0, 1), (0, 18), (0, 21), (3, 0), (3, 0), (3, 0), (3, 0), (3, 0), (3, 0)] sh))) (n1 := 40) (c1 := 39) (s1 := 333) zkk_X10_23 hG had (by decide) (by decide) (zsok_zu hs0 (by decide) (by decide +kernel)) zu_eq (fun q h => zu_lt h) (zlwL_some (zlw_P (Or.inl (by decide))) zlwL_nil) (zlwS_cons (zlw_P (Or.inl (by decide))) zlwS_nil) rfl rfl rfl ⟨by decide, by decide⟩ hO dX10_init_38 (fun ad7 had => ?_)
  refine zY.dup rfl hO dX10_init_41 ?_
  refine zY.callIN0 (n' := 57) (sh' := (zu 0 10 [(0, 1), (0, 18), (0, 21), (3, 0), (3, 0), (3, 0), (3, 0), (3, 0), (3, 0)] sh)) (c1 := 56) (s1 := 489) (cn_X2_39 (zsok_zu hs0 (by decide) (by decide +kernel))) (by decide) zcal_X2_init rfl rfl zmn_X10_25 (Nat.le_of_ble_eq_true rfl) rfl hG had (by decide) (fun q _ => zd_zu (by decide) q) (zlwL_some (zlw_P (Or.inl (by decide))) zlwL_nil) (zlwS_cons (zlw_P (Or.inl (by decide))) (zlwS_cons (zlw_P (Or.inl (by decide))) zlwS_nil)) rfl rfl ⟨by decide, by decide⟩ hO dX10_init_42 (fun ad8 μ8 had hq8 => ?_)
  have hkq8 := hq8.2
  have hk : ∀ q, q < 0 → μ8 q = μ q := fun q h => Eq.trans (b := μ6 q) (by rw [hkq8 q (by omega), zrow_ne (by omega)]) (hk q h)
  refine zY.putF (p := 0) (fl := [(0, 1), (0, 18), (0, 21), (3, 0), (3, 0), (3, 0), (3, 0), (3, 0), (3, 0)]) (fl' := [(0, 1), (0, 18), (0, 21), (0, 39), (3, 0), (3, 0), (3, 0), (3, 0), (3, 0)]) zFF_X10_30 hN (by decide) (by decide) rfl hO dX10_init_45 ?_
  refine zY.aload_n hO dX10_init_48 rfl ?_
  refine zY.new (sh' := (zu 57 0 [(3, 0), (3, 0)] (zu 0 10 [(0, 1), (0, 18), (0, 21), (0, 39), (3, 0), (3, 0), (3, 0), (3, 0), (3, 0)] sh))) (n1 := 58) (c1 := 57) (s1 := 491) zkk_X10_33 hG had (by decide) (by decide) (zsok_zu hs0 (by decide) (by decide +kernel)) zu_eq (fun q h => zu_lt h) (zlwL_some (zlw_P (Or.inl (by decide))) zlwL_nil) (zlwS_cons (zlw_P (Or.inl (by decide))) zlwS_nil) rfl rfl rfl ⟨by decide, by decide⟩ hO dX10_init_49 (fun ad9 had => ?_)
  refine zY.dup rfl hO dX10_init_52 ?_
  refine zY.bipush hO dX10_init_53 (by decide) ?_
  refine zY.callI1 (n' := 62) (sh' := (zu 0 10 [(0, 1), (0, 18), (0, 21), (0, 39), (3, 0), (3, 0), (3, 0), (3, 0), (3, 0)] sh)) (c1 := 61) (s1 := 535) (cn_X0_57 (zsok_zu hs0 (by decide) (by decide +kernel)) (by omega)) (by decide) zcal_X0_init rfl rfl zml_X10_35 (Nat.le_of_ble_eq_true rfl) rfl hG had (by decide) (fun q _ => zd_zu (by decide) q) (zlwL_some (zlw_P (Or.inl (by decide))) zlwL_nil) (zlwS_cons (zlw_P (Or.inl (by decide))) (zlwS_cons (zlw_P (Or.inl (by decide))) zlwS_nil)) rfl rfl ⟨by decide, by decide⟩ hO dX10_init_55 (fun ad10 μ10 had hq10 => ?_)
  have hkq10 := hq10
  have hk : ∀ q, q < 0 → μ10 q = μ q := fun q h => Eq.trans (b := μ8 q) (by rw [hkq10 q (by omega), zrow_ne (by omega)]) (hk q h)
  refine zY.putF (p := 0) (fl := [(0, 1), (0, 18), (0, 21), (0, 39), (3, 0), (3, 0), (3, 0), (3, 0), (3, 0)]) (fl' := [(0, 1), (0, 18), (0, 21), (0, 39), (0, 57), (3, 0), (3, 0), (3, 0), (3, 0)]) zFF_X10_38 hN (by decide) (by decide) rfl hO dX10_init_58 ?_
  refine zY.aload_n hO dX10_init_61 rfl ?_
  refine zY.new (sh' := (zu 62 9 [(3, 0), (3, 0), (3, 0), (3, 0), (1, 0)] (zu 0 10 [(0, 1), (0, 18), (0, 21), (0, 39), (0, 57), (3, 0), (3, 0), (3, 0), (3, 0)] sh))) (n1 := 63) (c1 := 62) (s1 := 540) zkk_X10_42 hG had (by decide) (by decide) (zsok_zu hs0 (by decide) (by decide +kernel)) zu_eq (fun q h => zu_lt h) (zlwL_some (zlw_P (Or.inl (by decide))) zlwL_nil) (zlwS_cons (zlw_P (Or.inl (by decide))) zlwS_nil) rfl rfl rfl ⟨by decide, by decide⟩ hO dX10_init_62 (fun ad11 had => ?_)
  refine zY.dup rfl hO dX10_init_65 ?_
  refine zY.callIN0 (n' := 77) (sh' := (zu 0 10 [(0, 1), (0, 18), (0, 21), (0, 39), (0, 57), (3, 0), (3, 0), (3, 0), (3, 0)] sh)) (c1 := 76) (s1 := 674) (cn_X9_62 (zsok_zu hs0 (by decide) (by decide +kernel))) (by decide) zcal_X9_init rfl rfl zmn_X10_44 (Nat.le_of_ble_eq_true rfl) rfl hG had (by decide) (fun q _ => zd_zu (by decide) q) (zlwL_some (zlw_P (Or.inl (by decide))) zlwL_nil) (zlwS_cons (zlw_P (Or.inl (by decide))) (zlwS_cons (zlw_P (Or.inl (by decide))) zlwS_nil)) rfl rfl ⟨by decide, by decide⟩ hO dX10_init_66 (fun ad12 μ12 had hq12 => ?_)
  have hkq12 := hq12
  have hk : ∀ q, q < 0 → μ12 q = μ q := fun q h => Eq.trans (b := μ10 q) (by rw [hkq12 q (by omega), zrow_ne (by omega)]) (hk q h)
  refine zY.putF (p := 0) (fl := [(0, 1), (0, 18), (0, 21), (0, 39), (0, 57), (3, 0), (3, 0), (3, 0), (3, 0)]) (fl' := [(0, 1), (0, 18), (0, 21), (0, 39), (0, 57), (0, 62), (3, 0), (3, 0), (3, 0)]) zFF_X10_45 hN (by decide) (by decide) rfl hO dX10_init_69 ?_
  refine zY.aload_n hO dX10_init_72 rfl ?_
  refine zY.new (sh' := (zu 77 8 [(3, 0), (3, 0), (3, 0), (3, 0), (3, 0), (3, 0), (1, 0)] (zu 0 10 [(0, 1), (0, 18), (0, 21), (0, 39), (0, 57), (0, 62), (3, 0), (3, 0), (3, 0)] sh))) (n1 := 78) (c1 := 77) (s1 := 681) zkk_X10_49 hG had (by decide) (by decide) (zsok_zu hs0 (by decide) (by decide +kernel)) zu_eq (fun q h => zu_lt h) (zlwL_some (zlw_P (Or.inl (by decide))) zlwL_nil) (zlwS_cons (zlw_P (Or.inl (by decide))) zlwS_nil) rfl rfl rfl ⟨by decide, by decide⟩ hO dX10_init_73 (fun ad13 had => ?_)
  refine zY.dup rfl hO dX10_init_76 ?_
  refine zY.callIN0 (n' := 96) (sh' := (zu 0 10 [(0, 1), (0, 18), (0, 21), (0, 39), (0, 57), (0, 62), (3, 0), (3, 0), (3, 0)] sh)) (c1 := 95) (s1 := 771) (cn_X8_77 (zsok_zu hs0 (by decide) (by decide +kernel))) (by decide) zcal_X8_init rfl rfl zmn_X10_51 (Nat.le_of_ble_eq_true rfl) rfl hG had (by decide) (fun q _ => zd_zu (by decide) q) (zlwL_some (zlw_P (Or.inl (by decide))) zlwL_nil) (zlwS_cons (zlw_P (Or.inl (by decide))) (zlwS_cons (zlw_P (Or.inl (by decide))) zlwS_nil)) rfl rfl ⟨by decide, by decide⟩ hO dX10_init_77 (fun ad14 μ14 had hq14 => ?_)
  have hkq14 := hq14
  have hk : ∀ q, q < 0 → μ14 q = μ q := fun q h => Eq.trans (b := μ12 q) (by rw [hkq14 q (by omega), zrow_ne (by omega)]) (hk q h)
  refine zY.putF (p := 0) (fl := [(0, 1), (0, 18), (0, 21), (0, 39), (0, 57), (0, 62), (3, 0), (3, 0), (3, 0)]) (fl' := [(0, 1), (0, 18), (0, 21), (0, 39), (0, 57), (0, 62), (0, 77), (3, 0), (3, 0)]) zFF_X10_52 hN (by decide) (by decide) rfl hO dX10_init_80 ?_
  refine zY.aload_n hO dX10_init_83 rfl ?_
  refine zY.new (sh' := (zu 96 1 [(3, 0), (3, 0), (3, 0), (3, 0), (1, 0), (2, 0)] (zu 0 10 [(0, 1), (0, 18), (0, 21), (0, 39), (0, 57), (0, 62), (0, 77), (3, 0), (3, 0)] sh))) (n1 := 97) (c1 := 96) (s1 := 777) zkk_X10_56 hG had (by decide) (by decide) (zsok_zu hs0 (by decide) (by decide +kernel)) zu_eq (fun q h => zu_lt h) (zlwL_some (zlw_P (Or.inl (by decide))) zlwL_nil) (zlwS_cons (zlw_P (Or.inl (by decide))) zlwS_nil) rfl rfl rfl ⟨by decide, by decide⟩ hO dX10_init_84 (fun ad15 had => ?_)
  refine zY.dup rfl hO dX10_init_87 ?_
  refine zY.callI0 (n' := 110) (sh' := (zu 0 10 [(0, 1), (0, 18), (0, 21), (0, 39), (0, 57), (0, 62), (0, 77), (3, 0), (3, 0)] sh)) (c1 := 109) (s1 := 4025) (cn_X1_96 (zsok_zu hs0 (by decide) (by decide +kernel))) (by decide) zcal_X1_init rfl rfl zml_X10_58 (Nat.le_of_ble_eq_true rfl) rfl hG had (by decide) (fun q _ => zd_zu (by decide) q) (zlwL_some (zlw_P (Or.inl (by decide))) zlwL_nil) (zlwS_cons (zlw_P (Or.inl (by decide))) (zlwS_cons (zlw_P (Or.inl (by decide))) zlwS_nil)) rfl rfl ⟨by decide, by decide⟩ hO dX10_init_88 (fun ad16 μ16 had hq16 => ?_)
  have hkq16 := hq16.2
  have hk : ∀ q, q < 0 → μ16 q = μ q := fun q h => Eq.trans (b := μ14 q) (by rw [hkq16 q (by omega), zrow_ne (by omega)]) (hk q h)
  refine zY.putF (p := 0) (fl := [(0, 1), (0, 18), (0, 21), (0, 39), (0, 57), (0, 62), (0, 77), (3, 0), (3, 0)]) (fl' := [(0, 1), (0, 18), (0, 21), (0, 39), (0, 57), (0, 62), (0, 77), (0, 96), (3, 0)]) zFF_X10_59 hN (by decide) (by decide) rfl hO dX10_init_91 ?_
  refine zY.aload_n hO dX10_init_94 rfl ?_
  refine zY.new (sh' := (zu 110 4 [(3, 0), (3, 0), (3, 0), (3, 0), (3, 0), (1, 0), (1, 0)] (zu 0 10 [(0, 1), (0, 18), (0, 21), (0, 39), (0, 57), (0, 62), (0, 77), (0, 96), (3, 0)] sh))) (n1 := 111) (c1 := 110) (s1 := 4032) zkk_X10_63 hG had (by decide) (by decide) (zsok_zu hs0 (by decide) (by decide +kernel)) zu_eq (fun q h => zu_lt h) (zlwL_some (zlw_P (Or.inl (by decide))) zlwL_nil) (zlwS_cons (zlw_P (Or.inl (by decide))) zlwS_nil) rfl rfl rfl ⟨by decide, by decide⟩ hO dX10_init_95 (fun ad17 had => ?_)
  refine zY.dup rfl hO dX10_init_98 ?_
  refine zY.callIN0 (n' := 127) (sh' := (zu 0 10 [(0, 1), (0, 18), (0, 21), (0, 39), (0, 57), (0, 62), (0, 77), (0, 96), (3, 0)] sh)) (c1 := 126) (s1 := 4158) (cn_X4_110 (zsok_zu hs0 (by decide) (by decide +kernel))) (by decide) zcal_X4_init rfl rfl zmn_X10_65 (Nat.le_of_ble_eq_true rfl) rfl hG had (by decide) (fun q _ => zd_zu (by decide) q) (zlwL_some (zlw_P (Or.inl (by decide))) zlwL_nil) (zlwS_cons (zlw_P (Or.inl (by decide))) (zlwS_cons (zlw_P (Or.inl (by decide))) zlwS_nil)) rfl rfl ⟨by decide, by decide⟩ hO dX10_init_99 (fun ad18 μ18 had hq18 => ?_)
  have hkq18 := hq18
  have hk : ∀ q, q < 0 → μ18 q = μ q := fun q h => Eq.trans (b := μ16 q) (by rw [hkq18 q (by omega), zrow_ne (by omega)]) (hk q h)
  refine zY.putF (p := 0) (fl := [(0, 1), (0, 18), (0, 21), (0, 39), (0, 57), (0, 62), (0, 77), (0, 96), (3, 0)]) (fl' := [(0, 1), (0, 18), (0, 21), (0, 39), (0, 57), (0, 62), (0, 77), (0, 96), (0, 110)]) zFF_X10_66 hN (by decide) (by decide) rfl hO dX10_init_102 ?_
  exact zY.cret rfl hR (by
        have k4 : ∀ q, q < 18 → μ4 q = μ2 q := fun q h => (hq4.2 q h).trans (zrow_ne (by omega))
        have k6 : ∀ q, q < 21 → μ6 q = μ4 q := fun q h => (hq6.2 q h).trans (zrow_ne (by omega))
        have k8 : ∀ q, q < 39 → μ8 q = μ6 q := fun q h => (hq8.2 q h).trans (zrow_ne (by omega))
        have k10 : ∀ q, q < 57 → μ10 q = μ8 q := fun q h => (hq10 q h).trans (zrow_ne (by omega))
        have k12 : ∀ q, q < 62 → μ12 q = μ10 q := fun q h => (hq12 q h).trans (zrow_ne (by omega))
        have k14 : ∀ q, q < 77 → μ14 q = μ12 q := fun q h => (hq14 q h).trans (zrow_ne (by omega))
        have k16 : ∀ q, q < 96 → μ16 q = μ14 q := fun q h => (hq16.2 q h).trans (zrow_ne (by omega))
        have k18 : ∀ q, q < 110 → μ18 q = μ16 q := fun q h => (hq18 q h).trans (zrow_ne (by omega))
        have k18a : ∀ q, q < 57 → μ18 q = μ8 q := fun q h => by rw [k18 q (by omega), k16 q (by omega), k14 q (by omega), k12 q (by omega), k10 q (by omega)]
        have kS : ∀ q, q < 18 → μ18 q = μ2 q := fun q h => by rw [k18a q (by omega), k8 q (by omega), k6 q (by omega), k4 q (by omega)]
        have kP : ∀ q, q < 21 → μ18 q = μ4 q := fun q h => by rw [k18a q (by omega), k8 q (by omega), k6 q (by omega)]
        refine ⟨⟨zD0_WF, hq2.1.row (fun q _ h => kS q (by omega)), ⟨fun j _ => ?_, ?_⟩, ?_, ?_⟩, fun j hj => ?_⟩
        · rw [kP 20 (by decide), hq4.1.1 j]; simp [zD0]
        · rw [kP 18 (by decide), hq4.1.2]; simp [zD0]
        · show μ18 21 1 = 0
          rw [k18a 21 (by decide), k8 21 (by decide)]; exact hq6.1
        · show μ18 39 1 = 0
          rw [k18a 39 (by decide)]; exact hq8.1
        · rw [k18 108 (by decide)]; exact hq16.1 j hj) had rfl (fun q _ => zu_zd rfl q) rfl rfl hO dX10_init_105

set_option maxRecDepth 100000 in
theorem zdf_X11 : ∀ j, j < 30 → defaultValue (tyX11 j) = vp_V (zfs (fun _ => 0) [(3, 0), (3, 0), (3, 0), (3, 0), (3, 0), (3, 0), (3, 0), (3, 0), (1, 0), (1, 0), (3, 0), (1, 0), (3, 0), (3, 0), (1, 0), (1, 0), (1, 0), (3, 0), (3, 0), (3, 0), (3, 0), (3, 0), (3, 0), (3, 0), (3, 0), (3, 0), (3, 0), (3, 0), (1, 0), (1, 0)] (fun _ => 0)) j := fun j hj => match j, hj with
  | 0, _ => rfl
  | 1, _ => rfl
  | 2, _ => rfl
  | 3, _ => rfl
  | 4, _ => rfl
  | 5, _ => rfl
  | 6, _ => rfl
  | 7, _ => rfl
  | 8, _ => rfl
  | 9, _ => rfl
  | 10, _ => rfl
  | 11, _ => rfl
  | 12, _ => rfl
  | 13, _ => rfl
  | 14, _ => rfl
  | 15, _ => rfl
  | 16, _ => rfl
  | 17, _ => rfl
  | 18, _ => rfl
  | 19, _ => rfl
  | 20, _ => rfl
  | 21, _ => rfl
  | 22, _ => rfl
  | 23, _ => rfl
  | 24, _ => rfl
  | 25, _ => rfl
  | 26, _ => rfl
  | 27, _ => rfl
  | 28, _ => rfl
  | 29, _ => rfl
  | j + 30, hj => absurd hj (by omega)
theorem zkk_L_10 : zKl RL 10 11 30 [(3, 0), (3, 0), (3, 0), (3, 0), (3, 0), (3, 0), (3, 0), (3, 0), (1, 0), (1, 0), (3, 0), (1, 0), (3, 0), (3, 0), (1, 0), (1, 0), (1, 0), (3, 0), (3, 0), (3, 0), (3, 0), (3, 0), (3, 0), (3, 0), (3, 0), (3, 0), (3, 0), (3, 0), (1, 0), (1, 0)] := ⟨RX11, TX11, tyX11, rfl, zin_X11, tyX11_ok, zkl_L_10, zis_X11, zii_X11, zdf_X11, by decide⟩
theorem zFF_X11_7 : zFF RX11 7 11 0 := ⟨RX11, TX11, 30, tyX11, tyX11 0, rfl, by decide, zT_mem 882 (by decide +kernel) rfl, rfl, zin_X11, tyX11_ok, nmX11, by decide +kernel, rfl, tyX11_ok 0 (by decide), fun a => ⟨rfl, rfl⟩⟩
theorem zFF_X11_13 : zFF RX11 13 11 1 := ⟨RX11, TX11, 30, tyX11, tyX11 1, rfl, by decide, zT_mem 883 (by decide +kernel) rfl, rfl, zin_X11, tyX11_ok, nmX11, by decide +kernel, rfl, tyX11_ok 1 (by decide), fun a => ⟨rfl, rfl⟩⟩
theorem zFF_X11_16 : zFF RX11 16 11 2 := ⟨RX11, TX11, 30, tyX11, tyX11 2, rfl, by decide, zT_mem 884 (by decide +kernel) rfl, rfl, zin_X11, tyX11_ok, nmX11, by decide +kernel, rfl, tyX11_ok 2 (by decide), fun a => ⟨rfl, rfl⟩⟩
theorem zFF_X11_19 : zFF RX11 19 11 3 := ⟨RX11, TX11, 30, tyX11, tyX11 3, rfl, by decide, zT_mem 885 (by decide +kernel) rfl, rfl, zin_X11, tyX11_ok, nmX11, by decide +kernel, rfl, tyX11_ok 3 (by decide), fun a => ⟨rfl, rfl⟩⟩
theorem zFF_X11_22 : zFF RX11 22 11 4 := ⟨RX11, TX11, 30, tyX11, tyX11 4, rfl, by decide, zT_mem 886 (by decide +kernel) rfl, rfl, zin_X11, tyX11_ok, nmX11, by decide +kernel, rfl, tyX11_ok 4 (by decide), fun a => ⟨rfl, rfl⟩⟩
theorem zFF_X11_25 : zFF RX11 25 11 5 := ⟨RX11, TX11, 30, tyX11, tyX11 5, rfl, by decide, zT_mem 887 (by decide +kernel) rfl, rfl, zin_X11, tyX11_ok, nmX11, by decide +kernel, rfl, tyX11_ok 5 (by decide), fun a => ⟨rfl, rfl⟩⟩
theorem zFF_X11_28 : zFF RX11 28 11 6 := ⟨RX11, TX11, 30, tyX11, tyX11 6, rfl, by decide, zT_mem 888 (by decide +kernel) rfl, rfl, zin_X11, tyX11_ok, nmX11, by decide +kernel, rfl, tyX11_ok 6 (by decide), fun a => ⟨rfl, rfl⟩⟩
theorem zFF_X11_31 : zFF RX11 31 11 7 := ⟨RX11, TX11, 30, tyX11, tyX11 7, rfl, by decide, zT_mem 889 (by decide +kernel) rfl, rfl, zin_X11, tyX11_ok, nmX11, by decide +kernel, rfl, tyX11_ok 7 (by decide), fun a => ⟨rfl, rfl⟩⟩
theorem zFF_X11_34 : zFF RX11 34 11 10 := ⟨RX11, TX11, 30, tyX11, tyX11 10, rfl, by decide, zT_mem 892 (by decide +kernel) rfl, rfl, zin_X11, tyX11_ok, nmX11, by decide +kernel, rfl, tyX11_ok 10 (by decide), fun a => ⟨rfl, rfl⟩⟩
theorem zFF_X11_37 : zFF RX11 37 11 12 := ⟨RX11, TX11, 30, tyX11, tyX11 12, rfl, by decide, zT_mem 894 (by decide +kernel) rfl, rfl, zin_X11, tyX11_ok, nmX11, by decide +kernel, rfl, tyX11_ok 12 (by decide), fun a => ⟨rfl, rfl⟩⟩
theorem zFF_X11_40 : zFF RX11 40 11 13 := ⟨RX11, TX11, 30, tyX11, tyX11 13, rfl, by decide, zT_mem 895 (by decide +kernel) rfl, rfl, zin_X11, tyX11_ok, nmX11, by decide +kernel, rfl, tyX11_ok 13 (by decide), fun a => ⟨rfl, rfl⟩⟩
theorem zFF_X11_43 : zFF RX11 43 11 17 := ⟨RX11, TX11, 30, tyX11, tyX11 17, rfl, by decide, zT_mem 899 (by decide +kernel) rfl, rfl, zin_X11, tyX11_ok, nmX11, by decide +kernel, rfl, tyX11_ok 17 (by decide), fun a => ⟨rfl, rfl⟩⟩
theorem zFF_X11_46 : zFF RX11 46 11 18 := ⟨RX11, TX11, 30, tyX11, tyX11 18, rfl, by decide, zT_mem 900 (by decide +kernel) rfl, rfl, zin_X11, tyX11_ok, nmX11, by decide +kernel, rfl, tyX11_ok 18 (by decide), fun a => ⟨rfl, rfl⟩⟩
theorem zFF_X11_49 : zFF RX11 49 11 19 := ⟨RX11, TX11, 30, tyX11, tyX11 19, rfl, by decide, zT_mem 901 (by decide +kernel) rfl, rfl, zin_X11, tyX11_ok, nmX11, by decide +kernel, rfl, tyX11_ok 19 (by decide), fun a => ⟨rfl, rfl⟩⟩
theorem zFF_X11_52 : zFF RX11 52 11 20 := ⟨RX11, TX11, 30, tyX11, tyX11 20, rfl, by decide, zT_mem 902 (by decide +kernel) rfl, rfl, zin_X11, tyX11_ok, nmX11, by decide +kernel, rfl, tyX11_ok 20 (by decide), fun a => ⟨rfl, rfl⟩⟩
theorem zFF_X11_55 : zFF RX11 55 11 21 := ⟨RX11, TX11, 30, tyX11, tyX11 21, rfl, by decide, zT_mem 903 (by decide +kernel) rfl, rfl, zin_X11, tyX11_ok, nmX11, by decide +kernel, rfl, tyX11_ok 21 (by decide), fun a => ⟨rfl, rfl⟩⟩
theorem zFF_X11_58 : zFF RX11 58 11 22 := ⟨RX11, TX11, 30, tyX11, tyX11 22, rfl, by decide, zT_mem 904 (by decide +kernel) rfl, rfl, zin_X11, tyX11_ok, nmX11, by decide +kernel, rfl, tyX11_ok 22 (by decide), fun a => ⟨rfl, rfl⟩⟩
theorem zFF_X11_61 : zFF RX11 61 11 23 := ⟨RX11, TX11, 30, tyX11, tyX11 23, rfl, by decide, zT_mem 905 (by decide +kernel) rfl, rfl, zin_X11, tyX11_ok, nmX11, by decide +kernel, rfl, tyX11_ok 23 (by decide), fun a => ⟨rfl, rfl⟩⟩
theorem zFF_X11_64 : zFF RX11 64 11 24 := ⟨RX11, TX11, 30, tyX11, tyX11 24, rfl, by decide, zT_mem 906 (by decide +kernel) rfl, rfl, zin_X11, tyX11_ok, nmX11, by decide +kernel, rfl, tyX11_ok 24 (by decide), fun a => ⟨rfl, rfl⟩⟩
theorem zFF_X11_67 : zFF RX11 67 11 25 := ⟨RX11, TX11, 30, tyX11, tyX11 25, rfl, by decide, zT_mem 907 (by decide +kernel) rfl, rfl, zin_X11, tyX11_ok, nmX11, by decide +kernel, rfl, tyX11_ok 25 (by decide), fun a => ⟨rfl, rfl⟩⟩
theorem zFF_X11_70 : zFF RX11 70 11 26 := ⟨RX11, TX11, 30, tyX11, tyX11 26, rfl, by decide, zT_mem 908 (by decide +kernel) rfl, rfl, zin_X11, tyX11_ok, nmX11, by decide +kernel, rfl, tyX11_ok 26 (by decide), fun a => ⟨rfl, rfl⟩⟩
theorem zFF_X11_73 : zFF RX11 73 11 27 := ⟨RX11, TX11, 30, tyX11, tyX11 27, rfl, by decide, zT_mem 909 (by decide +kernel) rfl, rfl, zin_X11, tyX11_ok, nmX11, by decide +kernel, rfl, tyX11_ok 27 (by decide), fun a => ⟨rfl, rfl⟩⟩

theorem zkk_L_7 : zKl RL 7 10 9 [(3, 0), (3, 0), (3, 0), (3, 0), (3, 0), (3, 0), (3, 0), (3, 0), (3, 0)] := ⟨RX10, TX10, tyX10, rfl, zin_X10, tyX10_ok, zkl_L_7, zis_X10, zii_X10, zdf_X10, by decide⟩

set_option maxRecDepth 100000 in
set_option maxHeartbeats 4000000 in
theorem cn_X11_127 {sh : Nat → zShc} {μ : zMem} (hs0 : zsok 127 sh) (h0 : ∀ j, μ 127 j = 0) : Cn kX11_init 4 128 (zu 127 11 [(3, 0), (3, 0), (3, 0), (3, 0), (3, 0), (3, 0), (3, 0), (3, 0), (1, 0), (1, 0), (3, 0), (1, 0), (3, 0), (3, 0), (1, 0), (1, 0), (1, 0), (3, 0), (3, 0), (3, 0), (3, 0), (3, 0), (3, 0), (3, 0), (3, 0), (3, 0), (3, 0), (3, 0), (1, 0), (1, 0)] sh) [zP 127] μ 150 (zd 127 sh) 22 9080 (fun μ' => zMd zD0 none none μ' ∧ ∀ q, q < 127 → μ' q = μ q) := by
  refine Cn.of [some (zP 127), none] rfl (Nat.le_of_ble_eq_true rfl) (by decide +kernel) rfl (fun Γ ad sz hO hG hN hR => ?_)
  have had : zag 128 ad ad := zag.rfl'
  have hk : ∀ q, q < 127 → μ q = μ q := fun _ _ => rfl
  have hz : ∀ q, 127 ≤ q → q < 128 → ∀ j, μ q j = 0 := fun q h1 h2 j => by rw [show q = 127 by omega]; exact h0 j
  refine zY.aload_n hO dX11_init_0 rfl ?_
  refine zY.objI zml_X11_1 (by decide) rfl (Nat.le_of_ble_eq_true rfl) hO dX11_init_1 ?_
  refine zY.aload_n hO dX11_init_4 rfl ?_
  refine zY.bipush hO dX11_init_5 (by decide) ?_
  refine zY.newI (sh' := (zu 127 11 [(3, 0), (3, 0), (3, 0), (3, 0), (3, 0), (3, 0), (3, 0), (3, 0), (1, 0), (1, 0), (3, 0), (1, 0), (3, 0), (3, 0), (1, 0), (1, 0), (1, 0), (3, 0), (3, 0), (3, 0), (3, 0), (3, 0), (3, 0), (3, 0), (3, 0), (3, 0), (3, 0), (3, 0), (1, 0), (1, 0)] sh)) (len := 50) (n1 := 129) (c1 := 1) (s1 := 50) (by omega) (by decide) hG had (by decide) (by decide) (zsok_zu hs0 (by decide) (by decide +kernel)) ((zu_gt (by decide)).trans rfl) (fun _ _ => rfl) (zlwL_some (zlw_P (Or.inl (by decide))) (zlwL_none zlwL_nil)) (zlwS_cons (zlw_P (Or.inl (by decide))) zlwS_nil) rfl rfl rfl ⟨by decide, by decide⟩ hO dX11_init_7 (fun ad1 had => ?_)
  obtain ⟨μ1, hm1⟩ : ∃ μ1 : zMem, μ1 = zrow μ 128 (fun _ => 0) := ⟨_, rfl⟩
  rw [← hm1]
  have hk : ∀ q, q < 127 → μ1 q = μ q := fun q h => Eq.trans (b := μ q) (by rw [hm1, zrow_ne (by omega)]) (hk q h)
  have hz : ∀ q, 127 ≤ q → q < 129 → ∀ j, μ1 q j = 0 := fun q h1 h2 j => by
    rw [hm1]
    by_cases e : q = 128
    · subst e; rw [zrow_eq]
    · rw [zrow_ne e]; exact hz q h1 (by omega) j
  refine zY.putF (p := 127) (fl := [(3, 0), (3, 0), (3, 0), (3, 0), (3, 0), (3, 0), (3, 0), (3, 0), (1, 0), (1, 0), (3, 0), (1, 0), (3, 0), (3, 0), (1, 0), (1, 0), (1, 0), (3, 0), (3, 0), (3, 0), (3, 0), (3, 0), (3, 0), (3, 0), (3, 0), (3, 0), (3, 0), (3, 0), (1, 0), (1, 0)]) (fl' := [(0, 128), (3, 0), (3, 0), (3, 0), (3, 0), (3, 0), (3, 0), (3, 0), (1, 0), (1, 0), (3, 0), (1, 0), (3, 0), (3, 0), (1, 0), (1, 0), (1, 0), (3, 0), (3, 0), (3, 0), (3, 0), (3, 0), (3, 0), (3, 0), (3, 0), (3, 0), (3, 0), (3, 0), (1, 0), (1, 0)]) zFF_X11_7 hN (by decide) (by decide) rfl hO dX11_init_9 ?_
  refine zY.aload_n hO dX11_init_12 rfl ?_
  refine zY.bipush hO dX11_init_13 (by decide) ?_
  refine zY.newI (sh' := (zu 127 11 [(0, 128), (3, 0), (3, 0), (3, 0), (3, 0), (3, 0), (3, 0), (3, 0), (1, 0), (1, 0), (3, 0), (1, 0), (3, 0), (3, 0), (1, 0), (1, 0), (1, 0), (3, 0), (3, 0), (3, 0), (3, 0), (3, 0), (3, 0), (3, 0), (3, 0), (3, 0), (3, 0), (3, 0), (1, 0), (1, 0)] sh)) (len := 10) (n1 := 130) (c1 := 2) (s1 := 60) (by omega) (by decide) hG had (by decide) (by decide) (zsok_zu hs0 (by decide) (by decide +kernel)) ((zu_gt (by decide)).trans rfl) (fun _ _ => rfl) (zlwL_some (zlw_P (Or.inl (by decide))) (zlwL_none zlwL_nil)) (zlwS_cons (zlw_P (Or.inl (by decide))) zlwS_nil) rfl rfl rfl ⟨by decide, by decide⟩ hO dX11_init_15 (fun ad2 had => ?_)
  obtain ⟨μ2, hm2⟩ : ∃ μ2 : zMem, μ2 = zrow μ1 129 (fun _ => 0) := ⟨_, rfl⟩
  rw [← hm2]
  have hk : ∀ q, q < 127 → μ2 q = μ q := fun q h => Eq.trans (b := μ1 q) (by rw [hm2, zrow_ne (by omega)]) (hk q h)
  have hz : ∀ q, 127 ≤ q → q < 130 → ∀ j, μ2 q j = 0 := fun q h1 h2 j => by
    rw [hm2]
    by_cases e : q = 129
    · subst e; rw [zrow_eq]
    · rw [zrow_ne e]; exact hz q h1 (by omega) j
  refine zY.putF (p := 127) (fl := [(0, 128), (3, 0), (3, 0), (3, 0), (3, 0), (3, 0), (3, 0), (3, 0), (1, 0), (1, 0), (3, 0), (1, 0), (3, 0), (3, 0), (1, 0), (1, 0), (1, 0), (3, 0), (3, 0), (3, 0), (3, 0), (3, 0), (3, 0), (3, 0), (3, 0), (3, 0), (3, 0), (3, 0), (1, 0), (1, 0)]) (fl' := [(0, 128), (0, 129), (3, 0), (3, 0), (3, 0), (3, 0), (3, 0), (3, 0), (1, 0), (1, 0), (3, 0), (1, 0), (3, 0), (3, 0), (1, 0), (1, 0), (1, 0), (3, 0), (3, 0), (3, 0), (3, 0), (3, 0), (3, 0), (3, 0), (3, 0), (3, 0), (3, 0), (3, 0), (1, 0), (1, 0)]) zFF_X11_13 hN (by decide) (by decide) rfl hO dX11_init_17 ?_
  refine zY.aload_n hO dX11_init_20 rfl ?_
  refine zY.bipush hO dX11_init_21 (by decide) ?_
  refine zY.newI (sh' := (zu 127 11 [(0, 128), (0, 129), (3, 0), (3, 0), (3, 0), (3, 0), (3, 0), (3, 0), (1, 0), (1, 0), (3, 0), (1, 0), (3, 0), (3, 0), (1, 0), (1, 0), (1, 0), (3, 0), (3, 0), (3, 0), (3, 0), (3, 0), (3, 0), (3, 0), (3, 0), (3, 0), (3, 0), (3, 0), (1, 0), (1, 0)] sh)) (len := 10) (n1 := 131) (c1 := 3) (s1 := 70) (by omega) (by decide) hG had (by decide) (by decide) (zsok_zu hs0 (by decide) (by decide +kernel)) ((zu_gt (by decide)).trans rfl) (fun _ _ => rfl) (zlwL_some (zlw_P (Or.inl (by decide))) (zlwL_none zlwL_nil)) (zlwS_cons (zlw_P (Or.inl (by decide))) zlwS_nil) rfl rfl rfl ⟨by decide, by decide⟩ hO dX11_init_23 (fun ad3 had => ?_)
  obtain ⟨μ3, hm3⟩ : ∃ μ3 : zMem, μ3 = zrow μ2 130 (fun _ => 0) := ⟨_, rfl⟩
  rw [← hm3]
  have hk : ∀ q, q < 127 → μ3 q = μ q := fun q h => Eq.trans (b := μ2 q) (by rw [hm3, zrow_ne (by omega)]) (hk q h)
  have hz : ∀ q, 127 ≤ q → q < 131 → ∀ j, μ3 q j = 0 := fun q h1 h2 j => by
    rw [hm3]
    by_cases e : q = 130
    · subst e; rw [zrow_eq]
    · rw [zrow_ne e]; exact hz q h1 (by omega) j
  refine zY.putF (p := 127) (fl := [(0, 128), (0, 129), (3, 0), (3, 0), (3, 0), (3, 0), (3, 0), (3, 0), (1, 0), (1, 0), (3, 0), (1, 0), (3, 0), (3, 0), (1, 0), (1, 0), (1, 0), (3, 0), (3, 0), (3, 0), (3, 0), (3, 0), (3, 0), (3, 0), (3, 0), (3, 0), (3, 0), (3, 0), (1, 0), (1, 0)]) (fl' := [(0, 128), (0, 129), (0, 130), (3, 0), (3, 0), (3, 0), (3, 0), (3, 0), (1, 0), (1, 0), (3, 0), (1, 0), (3, 0), (3, 0), (1, 0), (1, 0), (1, 0), (3, 0), (3, 0), (3, 0), (3, 0), (3, 0), (3, 0), (3, 0), (3, 0), (3, 0), (3, 0), (3, 0), (1, 0), (1, 0)]) zFF_X11_16 hN (by decide) (by decide) rfl hO dX11_init_25 ?_
  refine zY.aload_n hO dX11_init_28 rfl ?_
  refine zY.bipush hO dX11_init_29 (by decide) ?_
  refine zY.newI (sh' := (zu 127 11 [(0, 128), (0, 129), (0, 130), (3, 0), (3, 0), (3, 0), (3, 0), (3, 0), (1, 0), (1, 0), (3, 0), (1, 0), (3, 0), (3, 0), (1, 0), (1, 0), (1, 0), (3, 0), (3, 0), (3, 0), (3, 0), (3, 0), (3, 0), (3, 0), (3, 0), (3, 0), (3, 0), (3, 0), (1, 0), (1, 0)] sh)) (len := 36) (n1 := 132) (c1 := 4) (s1 := 106) (by omega) (by decide) hG had (by decide) (by decide) (zsok_zu hs0 (by decide) (by decide +kernel)) ((zu_gt (by decide)).trans rfl) (fun _ _ => rfl) (zlwL_some (zlw_P (Or.inl (by decide))) (zlwL_none zlwL_nil)) (zlwS_cons (zlw_P (Or.inl (by decide))) zlwS_nil) rfl rfl rfl ⟨by decide, by decide⟩ hO dX11_init_31 (fun ad4 had => ?_)
  obtain ⟨μ4, hm4⟩ : ∃ μ4 : zMem, μ4 = zrow μ3 131 (fun _ => 0) := ⟨_, rfl⟩
  rw [← hm4]
  have hk : ∀ q, q < 127 → μ4 q = μ q := fun q h => Eq.trans (b := μ3 q) (by rw [hm4, zrow_ne (by omega)]) (hk q h)
  have hz : ∀ q, 127 ≤ q → q < 132 → ∀ j, μ4 q j = 0 := fun q h1 h2 j => by
    rw [hm4]
    by_cases e : q = 131
    · subst e; rw [zrow_eq]
    · rw [zrow_ne e]; exact hz q h1 (by omega) j
  refine zY.putF (p := 127) (fl := [(0, 128), (0, 129), (0, 130), (3, 0), (3, 0), (3, 0), (3, 0), (3, 0), (1, 0), (1, 0), (3, 0), (1, 0), (3, 0), (3, 0), (1, 0), (1, 0), (1, 0), (3, 0), (3, 0), (3, 0), (3, 0), (3, 0), (3, 0), (3, 0), (3, 0), (3, 0), (3, 0), (3, 0), (1, 0), (1, 0)]) (fl' := [(0, 128), (0, 129), (0, 130), (0, 131), (3, 0), (3, 0), (3, 0), (3, 0), (1, 0), (1, 0), (3, 0), (1, 0), (3, 0), (3, 0), (1, 0), (1, 0), (1, 0), (3, 0), (3, 0), (3, 0), (3, 0), (3, 0), (3, 0), (3, 0), (3, 0), (3, 0), (3, 0), (3, 0), (1, 0), (1, 0)]) zFF_X11_19 hN (by decide) (by decide) rfl hO dX11_init_33 ?_
  refine zY.aload_n hO dX11_init_36 rfl ?_
  refine zY.bipush hO dX11_init_37 (by decide) ?_
  refine zY.newI (sh' := (zu 127 11 [(0, 128), (0, 129), (0, 130), (0, 131), (3, 0), (3, 0), (3, 0), (3, 0), (1, 0), (1, 0), (3, 0), (1, 0), (3, 0), (3, 0), (1, 0), (1, 0), (1, 0), (3, 0), (3, 0), (3, 0), (3, 0), (3, 0), (3, 0), (3, 0), (3, 0), (3, 0), (3, 0), (3, 0), (1, 0), (1, 0)] sh)) (len := 6) (n1 := 133) (c1 := 5) (s1 := 112) (by omega) (by decide) hG had (by decide) (by decide) (zsok_zu hs0 (by decide) (by decide +kernel)) ((zu_gt (by decide)).trans rfl) (fun _ _ => rfl) (zlwL_some (zlw_P (Or.inl (by decide))) (zlwL_none zlwL_nil)) (zlwS_cons (zlw_P (Or.inl (by decide))) zlwS_nil) rfl rfl rfl ⟨by decide, by decide⟩ hO dX11_init_39 (fun ad5 had => ?_)
  obtain ⟨μ5, hm5⟩ : ∃ μ5 : zMem, μ5 = zrow μ4 132 (fun _ => 0) := ⟨_, rfl⟩
  rw [← hm5]
  have hk : ∀ q, q < 127 → μ5 q = μ q := fun q h => Eq.trans (b := μ4 q) (by rw [hm5, zrow_ne (by omega)]) (hk q h)
  have hz : ∀ q, 127 ≤ q → q < 133 → ∀ j, μ5 q j = 0 := fun q h1 h2 j => by
    rw [hm5]
    by_cases e : q = 132
    · subst e; rw [zrow_eq]
    · rw [zrow_ne e]; exact hz q h1 (by omega) j
  refine zY.putF (p := 127) (fl := [(0, 128), (0, 129), (0, 130), (0, 131), (3, 0), (3, 0), (3, 0), (3, 0), (1, 0), (1, 0), (3, 0), (1, 0), (3, 0), (3, 0), (1, 0), (1, 0), (1, 0), (3, 0), (3, 0), (3, 0), (3, 0), (3, 0), (3, 0), (3, 0), (3, 0), (3, 0), (3, 0), (3, 0), (1, 0), (1, 0)]) (fl' := [(0, 128), (0, 129), (0, 130), (0, 131), (0, 132), (3, 0), (3, 0), (3, 0), (1, 0), (1, 0), (3, 0), (1, 0), (3, 0), (3, 0), (1, 0), (1, 0), (1, 0), (3, 0), (3, 0), (3, 0), (3, 0), (3, 0), (3, 0), (3, 0), (3, 0), (3, 0), (3, 0), (3, 0), (1, 0), (1, 0)]) zFF_X11_22 hN (by decide) (by decide) rfl hO dX11_init_41 ?_
  refine zY.aload_n hO dX11_init_44 rfl ?_
  refine zY.bipush hO dX11_init_45 (by decide) ?_
  refine zY.newI (sh' := (zu 127 11 [(0, 128), (0, 129), (0, 130), (0, 131), (0, 132), (3, 0), (3, 0), (3, 0), (1, 0), (1, 0), (3, 0), (1, 0), (3, 0), (3, 0), (1, 0), (1, 0), (1, 0), (3, 0), (3, 0), (3, 0), (3, 0), (3, 0), (3, 0), (3, 0), (3, 0), (3, 0), (3, 0), (3, 0), (1, 0), (1, 0)] sh)) (len := 6) (n1 := 134) (c1 := 6) (s1 := 118) (by omega) (by decide) hG had (by decide) (by decide) (zsok_zu hs0 (by decide) (by decide +kernel)) ((zu_gt (by decide)).trans rfl) (fun _ _ => rfl) (zlwL_some (zlw_P (Or.inl (by decide))) (zlwL_none zlwL_nil)) (zlwS_cons (zlw_P (Or.inl (by decide))) zlwS_nil) rfl rfl rfl ⟨by decide, by decide⟩ hO dX11_init_47 (fun ad6 had => ?_)
  obtain ⟨μ6, hm6⟩ : ∃ μ6 : zMem, μ6 = zrow μ5 133 (fun _ => 0) := ⟨_, rfl⟩
  rw [← hm6]
  have hk : ∀ q, q < 127 → μ6 q = μ q := fun q h => Eq.trans (b := μ5 q) (by rw [hm6, zrow_ne (by omega)]) (hk q h)
  have hz : ∀ q, 127 ≤ q → q < 134 → ∀ j, μ6 q j = 0 := fun q h1 h2 j => by
    rw [hm6]
    by_cases e : q = 133
    · subst e; rw [zrow_eq]
    · rw [zrow_ne e]; exact hz q h1 (by omega) j
  refine zY.putF (p := 127) (fl := [(0, 128), (0, 129), (0, 130), (0, 131), (0, 132), (3, 0), (3, 0), (3, 0), (1, 0), (1, 0), (3, 0), (1, 0), (3, 0), (3, 0), (1, 0), (1, 0), (1, 0), (3, 0), (3, 0), (3, 0), (3, 0), (3, 0), (3, 0), (3, 0), (3, 0), (3, 0), (3, 0), (3, 0), (1, 0), (1, 0)]) (fl' := [(0, 128), (0, 129), (0, 130), (0, 131), (0, 132), (0, 133), (3, 0), (3, 0), (1, 0), (1, 0), (3, 0), (1, 0), (3, 0), (3, 0), (1, 0), (1, 0), (1, 0), (3, 0), (3, 0), (3, 0), (3, 0), (3, 0), (3, 0), (3, 0), (3, 0), (3, 0), (3, 0), (3, 0), (1, 0), (1, 0)]) zFF_X11_25 hN (by decide) (by decide) rfl hO dX11_init_49 ?_
  refine zY.aload_n hO dX11_init_52 rfl ?_
  refine zY.bipush hO dX11_init_53 (by decide) ?_
  refine zY.newI (sh' := (zu 127 11 [(0, 128), (0, 129), (0, 130), (0, 131), (0, 132), (0, 133), (3, 0), (3, 0), (1, 0), (1, 0), (3, 0), (1, 0), (3, 0), (3, 0), (1, 0), (1, 0), (1, 0), (3, 0), (3, 0), (3, 0), (3, 0), (3, 0), (3, 0), (3, 0), (3, 0), (3, 0), (3, 0), (3, 0), (1, 0), (1, 0)] sh)) (len := 6) (n1 := 135) (c1 := 7) (s1 := 124) (by omega) (by decide) hG had (by decide) (by decide) (zsok_zu hs0 (by decide) (by decide +kernel)) ((zu_gt (by decide)).trans rfl) (fun _ _ => rfl) (zlwL_some (zlw_P (Or.inl (by decide))) (zlwL_none zlwL_nil)) (zlwS_cons (zlw_P (Or.inl (by decide))) zlwS_nil) rfl rfl rfl ⟨by decide, by decide⟩ hO dX11_init_55 (fun ad7 had => ?_)
  obtain ⟨μ7, hm7⟩ : ∃ μ7 : zMem, μ7 = zrow μ6 134 (fun _ => 0) := ⟨_, rfl⟩
  rw [← hm7]
  have hk : ∀ q, q < 127 → μ7 q = μ q := fun q h => Eq.trans (b := μ6 q) (by rw [hm7, zrow_ne (by omega)]) (hk q h)
  have hz : ∀ q, 127 ≤ q → q < 135 → ∀ j, μ7 q j = 0 := fun q h1 h2 j => by
    rw [hm7]
    by_cases e : q = 134
    · subst e; rw [zrow_eq]
    · rw [zrow_ne e]; exact hz q h1 (by omega) j
  refine zY.putF (p := 127) (fl := [(0, 128), (0, 129), (0, 130), (0, 131), (0, 132), (0, 133), (3, 0), (3, 0), (1, 0), (1, 0), (3, 0), (1, 0), (3, 0), (3, 0), (1, 0), (1, 0), (1, 0), (3, 0), (3, 0), (3, 0), (3, 0), (3, 0), (3, 0), (3, 0), (3, 0), (3, 0), (3, 0), (3, 0), (1, 0), (1, 0)]) (fl' := [(0, 128), (0, 129), (0, 130), (0, 131), (0, 132), (0, 133), (0, 134), (3, 0), (1, 0), (1, 0), (3, 0), (1, 0), (3, 0), (3, 0), (1, 0), (1, 0), (1, 0), (3, 0), (3, 0), (3, 0), (3, 0), (3, 0), (3, 0), (3, 0), (3, 0), (3, 0), (3, 0), (3, 0), (1, 0), (1, 0)]) zFF_X11_28 hN (by decide) (by decide) rfl hO dX11_init_57 ?_
  refine zY.aload_n hO dX11_init_60 rfl ?_
  refine zY.bipush hO dX11_init_61 (by decide) ?_
  refine zY.newI (sh' := (zu 127 11 [(0, 128), (0, 129), (0, 130), (0, 131), (0, 132), (0, 133), (0, 134), (3, 0), (1, 0), (1, 0), (3, 0), (1, 0), (3, 0), (3, 0), (1, 0), (1, 0), (1, 0), (3, 0), (3, 0), (3, 0), (3, 0), (3, 0), (3, 0), (3, 0), (3, 0), (3, 0), (3, 0), (3, 0), (1, 0), (1, 0)] sh)) (len := 6) (n1 := 136) (c1 := 8) (s1 := 130) (by omega) (by decide) hG had (by decide) (by decide) (zsok_zu hs0 (by decide) (by decide +kernel)) ((zu_gt (by decide)).trans rfl) (fun _ _ => rfl) (zlwL_some (zlw_P (Or.inl (by decide))) (zlwL_none zlwL_nil)) (zlwS_cons (zlw_P (Or.inl (by decide))) zlwS_nil) rfl rfl rfl ⟨by decide, by decide⟩ hO dX11_init_63 (fun ad8 had => ?_)
  obtain ⟨μ8, hm8⟩ : ∃ μ8 : zMem, μ8 = zrow μ7 135 (fun _ => 0) := ⟨_, rfl⟩
  rw [← hm8]
  have hk : ∀ q, q < 127 → μ8 q = μ q := fun q h => Eq.trans (b := μ7 q) (by rw [hm8, zrow_ne (by omega)]) (hk q h)
  have hz : ∀ q, 127 ≤ q → q < 136 → ∀ j, μ8 q j = 0 := fun q h1 h2 j => by
    rw [hm8]
    by_cases e : q = 135
    · subst e; rw [zrow_eq]
    · rw [zrow_ne e]; exact hz q h1 (by omega) j
  refine zY.putF (p := 127) (fl := [(0, 128), (0, 129), (0, 130), (0, 131), (0, 132), (0, 133), (0, 134), (3, 0), (1, 0), (1, 0), (3, 0), (1, 0), (3, 0), (3, 0), (1, 0), (1, 0), (1, 0), (3, 0), (3, 0), (3, 0), (3, 0), (3, 0), (3, 0), (3, 0), (3, 0), (3, 0), (3, 0), (3, 0), (1, 0), (1, 0)]) (fl' := [(0, 128), (0, 129), (0, 130), (0, 131), (0, 132), (0, 133), (0, 134), (0, 135), (1, 0), (1, 0), (3, 0), (1, 0), (3, 0), (3, 0), (1, 0), (1, 0), (1, 0), (3, 0), (3, 0), (3, 0), (3, 0), (3, 0), (3, 0), (3, 0), (3, 0), (3, 0), (3, 0), (3, 0), (1, 0), (1, 0)]) zFF_X11_31 hN (by decide) (by decide) rfl hO dX11_init_65 ?_
  refine zY.aload_n hO dX11_init_68 rfl ?_
  refine zY.bipush hO dX11_init_69 (by decide) ?_
  refine zY.newI (sh' := (zu 127 11 [(0, 128), (0, 129), (0, 130), (0, 131), (0, 132), (0, 133), (0, 134), (0, 135), (1, 0), (1, 0), (3, 0), (1, 0), (3, 0), (3, 0), (1, 0), (1, 0), (1, 0), (3, 0), (3, 0), (3, 0), (3, 0), (3, 0), (3, 0), (3, 0), (3, 0), (3, 0), (3, 0), (3, 0), (1, 0), (1, 0)] sh)) (len := 14) (n1 := 137) (c1 := 9) (s1 := 144) (by omega) (by decide) hG had (by decide) (by decide) (zsok_zu hs0 (by decide) (by decide +kernel)) ((zu_gt (by decide)).trans rfl) (fun _ _ => rfl) (zlwL_some (zlw_P (Or.inl (by decide))) (zlwL_none zlwL_nil)) (zlwS_cons (zlw_P (Or.inl (by decide))) zlwS_nil) rfl rfl rfl ⟨by decide, by decide⟩ hO dX11_init_71 (fun ad9 had => ?_)
  obtain ⟨μ9, hm9⟩ : ∃ μ9 : zMem, μ9 = zrow μ8 136 (fun _ => 0) := ⟨_, rfl⟩
  rw [← hm9]
  have hk : ∀ q, q < 127 → μ9 q = μ q := fun q h => Eq.trans (b := μ8 q) (by rw [hm9, zrow_ne (by omega)]) (hk q h)
  have hz : ∀ q, 127 ≤ q → q < 137 → ∀ j, μ9 q j = 0 := fun q h1 h2 j => by
    rw [hm9]
    by_cases e : q = 136
    · subst e; rw [zrow_eq]
    · rw [zrow_ne e]; exact hz q h1 (by omega) j
  refine zY.putF (p := 127) (fl := [(0, 128), (0, 129), (0, 130), (0, 131), (0, 132), (0, 133), (0, 134), (0, 135), (1, 0), (1, 0), (3, 0), (1, 0), (3, 0), (3, 0), (1, 0), (1, 0), (1, 0), (3, 0), (3, 0), (3, 0), (3, 0), (3, 0), (3, 0), (3, 0), (3, 0), (3, 0), (3, 0), (3, 0), (1, 0), (1, 0)]) (fl' := [(0, 128), (0, 129), (0, 130), (0, 131), (0, 132), (0, 133), (0, 134), (0, 135), (1, 0), (1, 0), (0, 136), (1, 0), (3, 0), (3, 0), (1, 0), (1, 0), (1, 0), (3, 0), (3, 0), (3, 0), (3, 0), (3, 0), (3, 0), (3, 0), (3, 0), (3, 0), (3, 0), (3, 0), (1, 0), (1, 0)]) zFF_X11_34 hN (by decide) (by decide) rfl hO dX11_init_73 ?_
  refine zY.aload_n hO dX11_init_76 rfl ?_
  refine zY.bipush hO dX11_init_77 (by decide) ?_
  refine zY.newI (sh' := (zu 127 11 [(0, 128), (0, 129), (0, 130), (0, 131), (0, 132), (0, 133), (0, 134), (0, 135), (1, 0), (1, 0), (0, 136), (1, 0), (3, 0), (3, 0), (1, 0), (1, 0), (1, 0), (3, 0), (3, 0), (3, 0), (3, 0), (3, 0), (3, 0), (3, 0), (3, 0), (3, 0), (3, 0), (3, 0), (1, 0), (1, 0)] sh)) (len := 6) (n1 := 138) (c1 := 10) (s1 := 150) (by omega) (by decide) hG had (by decide) (by decide) (zsok_zu hs0 (by decide) (by decide +kernel)) ((zu_gt (by decide)).trans rfl) (fun _ _ => rfl) (zlwL_some (zlw_P (Or.inl (by decide))) (zlwL_none zlwL_nil)) (zlwS_cons (zlw_P (Or.inl (by decide))) zlwS_nil) rfl rfl rfl ⟨by decide, by decide⟩ hO dX11_init_79 (fun ad10 had => ?_)
  obtain ⟨μ10, hm10⟩ : ∃ μ10 : zMem, μ10 = zrow μ9 137 (fun _ => 0) := ⟨_, rfl⟩
  rw [← hm10]
  have hk : ∀ q, q < 127 → μ10 q = μ q := fun q h => Eq.trans (b := μ9 q) (by rw [hm10, zrow_ne (by omega)]) (hk q h)
  have hz : ∀ q, 127 ≤ q → q < 138 → ∀ j, μ10 q j = 0 := fun q h1 h2 j => by
    rw [hm10]
    by_cases e : q = 137
    · subst e; rw [zrow_eq]
    · rw [zrow_ne e]; exact hz q h1 (by omega) j
  refine zY.putF (p := 127) (fl := [(0, 128), (0, 129), (0, 130), (0, 131), (0, 132), (0, 133), (0, 134), (0, 135), (1, 0), (1, 0), (0, 136), (1, 0), (3, 0), (3, 0), (1, 0), (1, 0), (1, 0), (3, 0), (3, 0), (3, 0), (3, 0), (3, 0), (3, 0), (3, 0), (3, 0), (3, 0), (3, 0), (3, 0), (1, 0), (1, 0)]) (fl' := [(0, 128), (0, 129), (0, 130), (0, 131), (0, 132), (0, 133), (0, 134), (0, 135), (1, 0), (1, 0), (0, 136), (1, 0), (0, 137), (3, 0), (1, 0), (1, 0), (1, 0), (3, 0), (3, 0), (3, 0), (3, 0), (3, 0), (3, 0), (3, 0), (3, 0), (3, 0), (3, 0), (3, 0), (1, 0), (1, 0)]) zFF_X11_37 hN (by decide) (by decide) rfl hO dX11_init_81 ?_
  refine zY.aload_n hO dX11_init_84 rfl ?_
  refine zY.bipush hO dX11_init_85 (by decide) ?_
  refine zY.newI (sh' := (zu 127 11 [(0, 128), (0, 129), (0, 130), (0, 131), (0, 132), (0, 133), (0, 134), (0, 135), (1, 0), (1, 0), (0, 136), (1, 0), (0, 137), (3, 0), (1, 0), (1, 0), (1, 0), (3, 0), (3, 0), (3, 0), (3, 0), (3, 0), (3, 0), (3, 0), (3, 0), (3, 0), (3, 0), (3, 0), (1, 0), (1, 0)] sh)) (len := 6) (n1 := 139) (c1 := 11) (s1 := 156) (by omega) (by decide) hG had (by decide) (by decide) (zsok_zu hs0 (by decide) (by decide +kernel)) ((zu_gt (by decide)).trans rfl) (fun _ _ => rfl) (zlwL_some (zlw_P (Or.inl (by decide))) (zlwL_none zlwL_nil)) (zlwS_cons (zlw_P (Or.inl (by decide))) zlwS_nil) rfl rfl rfl ⟨by decide, by decide⟩ hO dX11_init_87 (fun ad11 had => ?_)
  obtain ⟨μ11, hm11⟩ : ∃ μ11 : zMem, μ11 = zrow μ10 138 (fun _ => 0) := ⟨_, rfl⟩
  rw [← hm11]
  have hk : ∀ q, q < 127 → μ11 q = μ q := fun q h => Eq.trans (b := μ10 q) (by rw [hm11, zrow_ne (by omega)]) (hk q h)
  have hz : ∀ q, 127 ≤ q → q < 139 → ∀ j, μ11 q j = 0 := fun q h1 h2 j => by
    rw [hm11]
    by_cases e : q = 138
    · subst e; rw [zrow_eq]
    · rw [zrow_ne e]; exact hz q h1 (by omega) j
  refine zY.putF (p := 127) (fl := [(0, 128), (0, 129), (0, 130), (0, 131), (0, 132), (0, 133), (0, 134), (0, 135), (1, 0), (1, 0), (0, 136), (1, 0), (0, 137), (3, 0), (1, 0), (1, 0), (1, 0), (3, 0), (3, 0), (3, 0), (3, 0), (3, 0), (3, 0), (3, 0), (3, 0), (3, 0), (3, 0), (3, 0), (1, 0), (1, 0)]) (fl' := [(0, 128), (0, 129), (0, 130), (0, 131), (0, 132), (0, 133), (0, 134), (0, 135), (1, 0), (1, 0), (0, 136), (1, 0), (0, 137), (0, 138), (1, 0), (1, 0), (1, 0), (3, 0), (3, 0), (3, 0), (3, 0), (3, 0), (3, 0), (3, 0), (3, 0), (3, 0), (3, 0), (3, 0), (1, 0), (1, 0)]) zFF_X11_40 hN (by decide) (by decide) rfl hO dX11_init_89 ?_
  refine zY.aload_n hO dX11_init_92 rfl ?_
  refine zY.bipush hO dX11_init_93 (by decide) ?_
  refine zY.newI (sh' := (zu 127 11 [(0, 128), (0, 129), (0, 130), (0, 131), (0, 132), (0, 133), (0, 134), (0, 135), (1, 0), (1, 0), (0, 136), (1, 0), (0, 137), (0, 138), (1, 0), (1, 0), (1, 0), (3, 0), (3, 0), (3, 0), (3, 0), (3, 0), (3, 0), (3, 0), (3, 0), (3, 0), (3, 0), (3, 0), (1, 0), (1, 0)] sh)) (len := 64) (n1 := 140) (c1 := 12) (s1 := 220) (by omega) (by decide) hG had (by decide) (by decide) (zsok_zu hs0 (by decide) (by decide +kernel)) ((zu_gt (by decide)).trans rfl) (fun _ _ => rfl) (zlwL_some (zlw_P (Or.inl (by decide))) (zlwL_none zlwL_nil)) (zlwS_cons (zlw_P (Or.inl (by decide))) zlwS_nil) rfl rfl rfl ⟨by decide, by decide⟩ hO dX11_init_95 (fun ad12 had => ?_)
  obtain ⟨μ12, hm12⟩ : ∃ μ12 : zMem, μ12 = zrow μ11 139 (fun _ => 0) := ⟨_, rfl⟩
  rw [← hm12]
  have hk : ∀ q, q < 127 → μ12 q = μ q := fun q h => Eq.trans (b := μ11 q) (by rw [hm12, zrow_ne (by omega)]) (hk q h)
  have hz : ∀ q, 127 ≤ q → q < 140 → ∀ j, μ12 q j = 0 := fun q h1 h2 j => by
    rw [hm12]
    by_cases e : q = 139
    · subst e; rw [zrow_eq]
    · rw [zrow_ne e]; exact hz q h1 (by omega) j
  refine zY.putF (p := 127) (fl := [(0, 128), (0, 129), (0, 130), (0, 131), (0, 132), (0, 133), (0, 134), (0, 135), (1, 0), (1, 0), (0, 136), (1, 0), (0, 137), (0, 138), (1, 0), (1, 0), (1, 0), (3, 0), (3, 0), (3, 0), (3, 0), (3, 0), (3, 0), (3, 0), (3, 0), (3, 0), (3, 0), (3, 0), (1, 0), (1, 0)]) (fl' := [(0, 128), (0, 129), (0, 130), (0, 131), (0, 132), (0, 133), (0, 134), (0, 135), (1, 0), (1, 0), (0, 136), (1, 0), (0, 137), (0, 138), (1, 0), (1, 0), (1, 0), (0, 139), (3, 0), (3, 0), (3, 0), (3, 0), (3, 0), (3, 0), (3, 0), (3, 0), (3, 0), (3, 0), (1, 0), (1, 0)]) zFF_X11_43 hN (by decide) (by decide) rfl hO dX11_init_97 ?_
  refine zY.aload_n hO dX11_init_100 rfl ?_
  refine zY.bipush hO dX11_init_101 (by decide) ?_
  refine zY.newI (sh' := (zu 127 11 [(0, 128), (0, 129), (0, 130), (0, 131), (0, 132), (0, 133), (0, 134), (0, 135), (1, 0), (1, 0), (0, 136), (1, 0), (0, 137), (0, 138), (1, 0), (1, 0), (1, 0), (0, 139), (3, 0), (3, 0), (3, 0), (3, 0), (3, 0), (3, 0), (3, 0), (3, 0), (3, 0), (3, 0), (1, 0), (1, 0)] sh)) (len := 64) (n1 := 141) (c1 := 13) (s1 := 284) (by omega) (by decide) hG had (by decide) (by decide) (zsok_zu hs0 (by decide) (by decide +kernel)) ((zu_gt (by decide)).trans rfl) (fun _ _ => rfl) (zlwL_some (zlw_P (Or.inl (by decide))) (zlwL_none zlwL_nil)) (zlwS_cons (zlw_P (Or.inl (by decide))) zlwS_nil) rfl rfl rfl ⟨by decide, by decide⟩ hO dX11_init_103 (fun ad13 had => ?_)
  obtain ⟨μ13, hm13⟩ : ∃ μ13 : zMem, μ13 = zrow μ12 140 (fun _ => 0) := ⟨_, rfl⟩
  rw [← hm13]
  have hk : ∀ q, q < 127 → μ13 q = μ q := fun q h => Eq.trans (b := μ12 q) (by rw [hm13, zrow_ne (by omega)]) (hk q h)
  have hz : ∀ q, 127 ≤ q → q < 141 → ∀ j, μ13 q j = 0 := fun q h1 h2 j => by
    rw [hm13]
    by_cases e : q = 140
    · subst e; rw [zrow_eq]
    · rw [zrow_ne e]; exact hz q h1 (by omega) j
  refine zY.putF (p := 127) (fl := [(0, 128), (0, 129), (0, 130), (0, 131), (0, 132), (0, 133), (0, 134), (0, 135), (1, 0), (1, 0), (0, 136), (1, 0), (0, 137), (0, 138), (1, 0), (1, 0), (1, 0), (0, 139), (3, 0), (3, 0), (3, 0), (3, 0), (3, 0), (3, 0), (3, 0), (3, 0), (3, 0), (3, 0), (1, 0), (1, 0)]) (fl' := [(0, 128), (0, 129), (0, 130), (0, 131), (0, 132), (0, 133), (0, 134), (0, 135), (1, 0), (1, 0), (0, 136), (1, 0), (0, 137), (0, 138), (1, 0), (1, 0), (1, 0), (0, 139), (0, 140), (3, 0), (3, 0), (3, 0), (3, 0), (3, 0), (3, 0), (3, 0), (3, 0), (3, 0), (1, 0), (1, 0)]) zFF_X11_46 hN (by decide) (by decide) rfl hO dX11_init_105 ?_
  refine zY.aload_n hO dX11_init_108 rfl ?_
  refine zY.sipush hO dX11_init_109 (by decide) ?_
  refine zY.newI (sh' := (zu 127 11 [(0, 128), (0, 129), (0, 130), (0, 131), (0, 132), (0, 133), (0, 134), (0, 135), (1, 0), (1, 0), (0, 136), (1, 0), (0, 137), (0, 138), (1, 0), (1, 0), (1, 0), (0, 139), (0, 140), (3, 0), (3, 0), (3, 0), (3, 0), (3, 0), (3, 0), (3, 0), (3, 0), (3, 0), (1, 0), (1, 0)] sh)) (len := 4200) (n1 := 142) (c1 := 14) (s1 := 4484) (by omega) (by decide) hG had (by decide) (by decide) (zsok_zu hs0 (by decide) (by decide +kernel)) ((zu_gt (by decide)).trans rfl) (fun _ _ => rfl) (zlwL_some (zlw_P (Or.inl (by decide))) (zlwL_none zlwL_nil)) (zlwS_cons (zlw_P (Or.inl (by decide))) zlwS_nil) rfl rfl rfl ⟨by decide, by decide⟩ hO dX11_init_112 (fun ad14 had => ?_)
  obtain ⟨μ14, hm14⟩ : ∃ μ14 : zMem, μ14 = zrow μ13 141 (fun _ => 0) := ⟨_, rfl⟩
  rw [← hm14]
  have hk : ∀ q, q < 127 → μ14 q = μ q := fun q h => Eq.trans (b := μ13 q) (by rw [hm14, zrow_ne (by omega)]) (hk q h)
  have hz : ∀ q, 127 ≤ q → q < 142 → ∀ j, μ14 q j = 0 := fun q h1 h2 j => by
    rw [hm14]
    by_cases e : q = 141
    · subst e; rw [zrow_eq]
    · rw [zrow_ne e]; exact hz q h1 (by omega) j
  refine zY.putF (p := 127) (fl := [(0, 128), (0, 129), (0, 130), (0, 131), (0, 132), (0, 133), (0, 134), (0, 135), (1, 0), (1, 0), (0, 136), (1, 0), (0, 137), (0, 138), (1, 0), (1, 0), (1, 0), (0, 139), (0, 140), (3, 0), (3, 0), (3, 0), (3, 0), (3, 0), (3, 0), (3, 0), (3, 0), (3, 0), (1, 0), (1, 0)]) (fl' := [(0, 128), (0, 129), (0, 130), (0, 131), (0, 132), (0, 133), (0, 134), (0, 135), (1, 0), (1, 0), (0, 136), (1, 0), (0, 137), (0, 138), (1, 0), (1, 0), (1, 0), (0, 139), (0, 140), (0, 141), (3, 0), (3, 0), (3, 0), (3, 0), (3, 0), (3, 0), (3, 0), (3, 0), (1, 0), (1, 0)]) zFF_X11_49 hN (by decide) (by decide) rfl hO dX11_init_114 ?_
  refine zY.aload_n hO dX11_init_117 rfl ?_
  refine zY.bipush hO dX11_init_118 (by decide) ?_
  refine zY.newI (sh' := (zu 127 11 [(0, 128), (0, 129), (0, 130), (0, 131), (0, 132), (0, 133), (0, 134), (0, 135), (1, 0), (1, 0), (0, 136), (1, 0), (0, 137), (0, 138), (1, 0), (1, 0), (1, 0), (0, 139), (0, 140), (0, 141), (3, 0), (3, 0), (3, 0), (3, 0), (3, 0), (3, 0), (3, 0), (3, 0), (1, 0), (1, 0)] sh)) (len := 7) (n1 := 143) (c1 := 15) (s1 := 4491) (by omega) (by decide) hG had (by decide) (by decide) (zsok_zu hs0 (by decide) (by decide +kernel)) ((zu_gt (by decide)).trans rfl) (fun _ _ => rfl) (zlwL_some (zlw_P (Or.inl (by decide))) (zlwL_none zlwL_nil)) (zlwS_cons (zlw_P (Or.inl (by decide))) zlwS_nil) rfl rfl rfl ⟨by decide, by decide⟩ hO dX11_init_120 (fun ad15 had => ?_)
  obtain ⟨μ15, hm15⟩ : ∃ μ15 : zMem, μ15 = zrow μ14 142 (fun _ => 0) := ⟨_, rfl⟩
  rw [← hm15]
  have hk : ∀ q, q < 127 → μ15 q = μ q := fun q h => Eq.trans (b := μ14 q) (by rw [hm15, zrow_ne (by omega)]) (hk q h)
  have hz : ∀ q, 127 ≤ q → q < 143 → ∀ j, μ15 q j = 0 := fun q h1 h2 j => by
    rw [hm15]
    by_cases e : q = 142
    · subst e; rw [zrow_eq]
    · rw [zrow_ne e]; exact hz q h1 (by omega) j
  refine zY.putF (p := 127) (fl := [(0, 128), (0, 129), (0, 130), (0, 131), (0, 132), (0, 133), (0, 134), (0, 135), (1, 0), (1, 0), (0, 136), (1, 0), (0, 137), (0, 138), (1, 0), (1, 0), (1, 0), (0, 139), (0, 140), (0, 141), (3, 0), (3, 0), (3, 0), (3, 0), (3, 0), (3, 0), (3, 0), (3, 0), (1, 0), (1, 0)]) (fl' := [(0, 128), (0, 129), (0, 130), (0, 131), (0, 132), (0, 133), (0, 134), (0, 135), (1, 0), (1, 0), (0, 136), (1, 0), (0, 137), (0, 138), (1, 0), (1, 0), (1, 0), (0, 139), (0, 140), (0, 141), (0, 142), (3, 0), (3, 0), (3, 0), (3, 0), (3, 0), (3, 0), (3, 0), (1, 0), (1, 0)]) zFF_X11_52 hN (by decide) (by decide) rfl hO dX11_init_122 ?_
  refine zY.aload_n hO dX11_init_125 rfl ?_
  refine zY.sipush hO dX11_init_126 (by decide) ?_
  refine zY.newI (sh' := (zu 127 11 [(0, 128), (0, 129), (0, 130), (0, 131), (0, 132), (0, 133), (0, 134), (0, 135), (1, 0), (1, 0), (0, 136), (1, 0), (0, 137), (0, 138), (1, 0), (1, 0), (1, 0), (0, 139), (0, 140), (0, 141), (0, 142), (3, 0), (3, 0), (3, 0), (3, 0), (3, 0), (3, 0), (3, 0), (1, 0), (1, 0)] sh)) (len := 4200) (n1 := 144) (c1 := 16) (s1 := 8691) (by omega) (by decide) hG had (by decide) (by decide) (zsok_zu hs0 (by decide) (by decide +kernel)) ((zu_gt (by decide)).trans rfl) (fun _ _ => rfl) (zlwL_some (zlw_P (Or.inl (by decide))) (zlwL_none zlwL_nil)) (zlwS_cons (zlw_P (Or.inl (by decide))) zlwS_nil) rfl rfl rfl ⟨by decide, by decide⟩ hO dX11_init_129 (fun ad16 had => ?_)
  obtain ⟨μ16, hm16⟩ : ∃ μ16 : zMem, μ16 = zrow μ15 143 (fun _ => 0) := ⟨_, rfl⟩
  rw [← hm16]
  have hk : ∀ q, q < 127 → μ16 q = μ q := fun q h => Eq.trans (b := μ15 q) (by rw [hm16, zrow_ne (by omega)]) (hk q h)
  have hz : ∀ q, 127 ≤ q → q < 144 → ∀ j, μ16 q j = 0 := fun q h1 h2 j => by
    rw [hm16]
    by_cases e : q = 143
    · subst e; rw [zrow_eq]
    · rw [zrow_ne e]; exact hz q h1 (by omega) j
  refine zY.putF (p := 127) (fl := [(0, 128), (0, 129), (0, 130), (0, 131), (0, 132), (0, 133), (0, 134), (0, 135), (1, 0), (1, 0), (0, 136), (1, 0), (0, 137), (0, 138), (1, 0), (1, 0), (1, 0), (0, 139), (0, 140), (0, 141), (0, 142), (3, 0), (3, 0), (3, 0), (3, 0), (3, 0), (3, 0), (3, 0), (1, 0), (1, 0)]) (fl' := [(0, 128), (0, 129), (0, 130), (0, 131), (0, 132), (0, 133), (0, 134), (0, 135), (1, 0), (1, 0), (0, 136), (1, 0), (0, 137), (0, 138), (1, 0), (1, 0), (1, 0), (0, 139), (0, 140), (0, 141), (0, 142), (0, 143), (3, 0), (3, 0), (3, 0), (3, 0), (3, 0), (3, 0), (1, 0), (1, 0)]) zFF_X11_55 hN (by decide) (by decide) rfl hO dX11_init_131 ?_
  refine zY.aload_n hO dX11_init_134 rfl ?_
  refine zY.bipush hO dX11_init_135 (by decide) ?_
  refine zY.newI (sh' := (zu 127 11 [(0, 128), (0, 129), (0, 130), (0, 131), (0, 132), (0, 133), (0, 134), (0, 135), (1, 0), (1, 0), (0, 136), (1, 0), (0, 137), (0, 138), (1, 0), (1, 0), (1, 0), (0, 139), (0, 140), (0, 141), (0, 142), (0, 143), (3, 0), (3, 0), (3, 0), (3, 0), (3, 0), (3, 0), (1, 0), (1, 0)] sh)) (len := 6) (n1 := 145) (c1 := 17) (s1 := 8697) (by omega) (by decide) hG had (by decide) (by decide) (zsok_zu hs0 (by decide) (by decide +kernel)) ((zu_gt (by decide)).trans rfl) (fun _ _ => rfl) (zlwL_some (zlw_P (Or.inl (by decide))) (zlwL_none zlwL_nil)) (zlwS_cons (zlw_P (Or.inl (by decide))) zlwS_nil) rfl rfl rfl ⟨by decide, by decide⟩ hO dX11_init_137 (fun ad17 had => ?_)
  obtain ⟨μ17, hm17⟩ : ∃ μ17 : zMem, μ17 = zrow μ16 144 (fun _ => 0) := ⟨_, rfl⟩
  rw [← hm17]
  have hk : ∀ q, q < 127 → μ17 q = μ q := fun q h => Eq.trans (b := μ16 q) (by rw [hm17, zrow_ne (by omega)]) (hk q h)
  have hz : ∀ q, 127 ≤ q → q < 145 → ∀ j, μ17 q j = 0 := fun q h1 h2 j => by
    rw [hm17]
    by_cases e : q = 144
    · subst e; rw [zrow_eq]
    · rw [zrow_ne e]; exact hz q h1 (by omega) j
  refine zY.putF (p := 127) (fl := [(0, 128), (0, 129), (0, 130), (0, 131), (0, 132), (0, 133), (0, 134), (0, 135), (1, 0), (1, 0), (0, 136), (1, 0), (0, 137), (0, 138), (1, 0), (1, 0), (1, 0), (0, 139), (0, 140), (0, 141), (0, 142), (0, 143), (3, 0), (3, 0), (3, 0), (3, 0), (3, 0), (3, 0), (1, 0), (1, 0)]) (fl' := [(0, 128), (0, 129), (0, 130), (0, 131), (0, 132), (0, 133), (0, 134), (0, 135), (1, 0), (1, 0), (0, 136), (1, 0), (0, 137), (0, 138), (1, 0), (1, 0), (1, 0), (0, 139), (0, 140), (0, 141), (0, 142), (0, 143), (0, 144), (3, 0), (3, 0), (3, 0), (3, 0), (3, 0), (1, 0), (1, 0)]) zFF_X11_58 hN (by decide) (by decide) rfl hO dX11_init_139 ?_
  refine zY.aload_n hO dX11_init_142 rfl ?_
  refine zY.bipush hO dX11_init_143 (by decide) ?_
  refine zY.newI (sh' := (zu 127 11 [(0, 128), (0, 129), (0, 130), (0, 131), (0, 132), (0, 133), (0, 134), (0, 135), (1, 0), (1, 0), (0, 136), (1, 0), (0, 137), (0, 138), (1, 0), (1, 0), (1, 0), (0, 139), (0, 140), (0, 141), (0, 142), (0, 143), (0, 144), (3, 0), (3, 0), (3, 0), (3, 0), (3, 0), (1, 0), (1, 0)] sh)) (len := 49) (n1 := 146) (c1 := 18) (s1 := 8746) (by omega) (by decide) hG had (by decide) (by decide) (zsok_zu hs0 (by decide) (by decide +kernel)) ((zu_gt (by decide)).trans rfl) (fun _ _ => rfl) (zlwL_some (zlw_P (Or.inl (by decide))) (zlwL_none zlwL_nil)) (zlwS_cons (zlw_P (Or.inl (by decide))) zlwS_nil) rfl rfl rfl ⟨by decide, by decide⟩ hO dX11_init_145 (fun ad18 had => ?_)
  obtain ⟨μ18, hm18⟩ : ∃ μ18 : zMem, μ18 = zrow μ17 145 (fun _ => 0) := ⟨_, rfl⟩
  rw [← hm18]
  have hk : ∀ q, q < 127 → μ18 q = μ q := fun q h => Eq.trans (b := μ17 q) (by rw [hm18, zrow_ne (by omega)]) (hk q h)
  have hz : ∀ q, 127 ≤ q → q < 146 → ∀ j, μ18 q j = 0 := fun q h1 h2 j => by
    rw [hm18]
    by_cases e : q = 145
    · subst e; rw [zrow_eq]
    · rw [zrow_ne e]; exact hz q h1 (by omega) j
  refine zY.putF (p := 127) (fl := [(0, 128), (0, 129), (0, 130), (0, 131), (0, 132), (0, 133), (0, 134), (0, 135), (1, 0), (1, 0), (0, 136), (1, 0), (0, 137), (0, 138), (1, 0), (1, 0), (1, 0), (0, 139), (0, 140), (0, 141), (0, 142), (0, 143), (0, 144), (3, 0), (3, 0), (3, 0), (3, 0), (3, 0), (1, 0), (1, 0)]) (fl' := [(0, 128), (0, 129), (0, 130), (0, 131), (0, 132), (0, 133), (0, 134), (0, 135), (1, 0), (1, 0), (0, 136), (1, 0), (0, 137), (0, 138), (1, 0), (1, 0), (1, 0), (0, 139), (0, 140), (0, 141), (0, 142), (0, 143), (0, 144), (0, 145), (3, 0), (3, 0), (3, 0), (3, 0), (1, 0), (1, 0)]) zFF_X11_61 hN (by decide) (by decide) rfl hO dX11_init_147 ?_
  refine zY.aload_n hO dX11_init_150 rfl ?_
  refine zY.bipush hO dX11_init_151 (by decide) ?_
  refine zY.newI (sh' := (zu 127 11 [(0, 128), (0, 129), (0, 130), (0, 131), (0, 132), (0, 133), (0, 134), (0, 135), (1, 0), (1, 0), (0, 136), (1, 0), (0, 137), (0, 138), (1, 0), (1, 0), (1, 0), (0, 139), (0, 140), (0, 141), (0, 142), (0, 143), (0, 144), (0, 145), (3, 0), (3, 0), (3, 0), (3, 0), (1, 0), (1, 0)] sh)) (len := 6) (n1 := 147) (c1 := 19) (s1 := 8752) (by omega) (by decide) hG had (by decide) (by decide) (zsok_zu hs0 (by decide) (by decide +kernel)) ((zu_gt (by decide)).trans rfl) (fun _ _ => rfl) (zlwL_some (zlw_P (Or.inl (by decide))) (zlwL_none zlwL_nil)) (zlwS_cons (zlw_P (Or.inl (by decide))) zlwS_nil) rfl rfl rfl ⟨by decide, by decide⟩ hO dX11_init_153 (fun ad19 had => ?_)
  obtain ⟨μ19, hm19⟩ : ∃ μ19 : zMem, μ19 = zrow μ18 146 (fun _ => 0) := ⟨_, rfl⟩
  rw [← hm19]
  have hk : ∀ q, q < 127 → μ19 q = μ q := fun q h => Eq.trans (b := μ18 q) (by rw [hm19, zrow_ne (by omega)]) (hk q h)
  have hz : ∀ q, 127 ≤ q → q < 147 → ∀ j, μ19 q j = 0 := fun q h1 h2 j => by
    rw [hm19]
    by_cases e : q = 146
    · subst e; rw [zrow_eq]
    · rw [zrow_ne e]; exact hz q h1 (by omega) j
  refine zY.putF (p := 127) (fl := [(0, 128), (0, 129), (0, 130), (0, 131), (0, 132), (0, 133), (0, 134), (0, 135), (1, 0), (1, 0), (0, 136), (1, 0), (0, 137), (0, 138), (1, 0), (1, 0), (1, 0), (0, 139), (0, 140), (0, 141), (0, 142), (0, 143), (0, 144), (0, 145), (3, 0), (3, 0), (3, 0), (3, 0), (1, 0), (1, 0)]) (fl' := [(0, 128), (0, 129), (0, 130), (0, 131), (0, 132), (0, 133), (0, 134), (0, 135), (1, 0), (1, 0), (0, 136), (1, 0), (0, 137), (0, 138), (1, 0), (1, 0), (1, 0), (0, 139), (0, 140), (0, 141), (0, 142), (0, 143), (0, 144), (0, 145), (0, 146), (3, 0), (3, 0), (3, 0), (1, 0), (1, 0)]) zFF_X11_64 hN (by decide) (by decide) rfl hO dX11_init_155 ?_
  refine zY.aload_n hO dX11_init_158 rfl ?_
  refine zY.bipush hO dX11_init_159 (by decide) ?_
  refine zY.newI (sh' := (zu 127 11 [(0, 128), (0, 129), (0, 130), (0, 131), (0, 132), (0, 133), (0, 134), (0, 135), (1, 0), (1, 0), (0, 136), (1, 0), (0, 137), (0, 138), (1, 0), (1, 0), (1, 0), (0, 139), (0, 140), (0, 141), (0, 142), (0, 143), (0, 144), (0, 145), (0, 146), (3, 0), (3, 0), (3, 0), (1, 0), (1, 0)] sh)) (len := 6) (n1 := 148) (c1 := 20) (s1 := 8758) (by omega) (by decide) hG had (by decide) (by decide) (zsok_zu hs0 (by decide) (by decide +kernel)) ((zu_gt (by decide)).trans rfl) (fun _ _ => rfl) (zlwL_some (zlw_P (Or.inl (by decide))) (zlwL_none zlwL_nil)) (zlwS_cons (zlw_P (Or.inl (by decide))) zlwS_nil) rfl rfl rfl ⟨by decide, by decide⟩ hO dX11_init_161 (fun ad20 had => ?_)
  obtain ⟨μ20, hm20⟩ : ∃ μ20 : zMem, μ20 = zrow μ19 147 (fun _ => 0) := ⟨_, rfl⟩
  rw [← hm20]
  have hk : ∀ q, q < 127 → μ20 q = μ q := fun q h => Eq.trans (b := μ19 q) (by rw [hm20, zrow_ne (by omega)]) (hk q h)
  have hz : ∀ q, 127 ≤ q → q < 148 → ∀ j, μ20 q j = 0 := fun q h1 h2 j => by
    rw [hm20]
    by_cases e : q = 147
    · subst e; rw [zrow_eq]
    · rw [zrow_ne e]; exact hz q h1 (by omega) j
  refine zY.putF (p := 127) (fl := [(0, 128), (0, 129), (0, 130), (0, 131), (0, 132), (0, 133), (0, 134), (0, 135), (1, 0), (1, 0), (0, 136), (1, 0), (0, 137), (0, 138), (1, 0), (1, 0), (1, 0), (0, 139), (0, 140), (0, 141), (0, 142), (0, 143), (0, 144), (0, 145), (0, 146), (3, 0), (3, 0), (3, 0), (1, 0), (1, 0)]) (fl' := [(0, 128), (0, 129), (0, 130), (0, 131), (0, 132), (0, 133), (0, 134), (0, 135), (1, 0), (1, 0), (0, 136), (1, 0), (0, 137), (0, 138), (1, 0), (1, 0), (1, 0), (0, 139), (0, 140), (0, 141), (0, 142), (0, 143), (0, 144), (0, 145), (0, 146), (0, 147), (3, 0), (3, 0), (1, 0), (1, 0)]) zFF_X11_67 hN (by decide) (by decide) rfl hO dX11_init_163 ?_
  refine zY.aload_n hO dX11_init_166 rfl ?_
  refine zY.sipush hO dX11_init_167 (by decide) ?_
  refine zY.newI (sh' := (zu 127 11 [(0, 128), (0, 129), (0, 130), (0, 131), (0, 132), (0, 133), (0, 134), (0, 135), (1, 0), (1, 0), (0, 136), (1, 0), (0, 137), (0, 138), (1, 0), (1, 0), (1, 0), (0, 139), (0, 140), (0, 141), (0, 142), (0, 143), (0, 144), (0, 145), (0, 146), (0, 147), (3, 0), (3, 0), (1, 0), (1, 0)] sh)) (len := 320) (n1 := 149) (c1 := 21) (s1 := 9078) (by omega) (by decide) hG had (by decide) (by decide) (zsok_zu hs0 (by decide) (by decide +kernel)) ((zu_gt (by decide)).trans rfl) (fun _ _ => rfl) (zlwL_some (zlw_P (Or.inl (by decide))) (zlwL_none zlwL_nil)) (zlwS_cons (zlw_P (Or.inl (by decide))) zlwS_nil) rfl rfl rfl ⟨by decide, by decide⟩ hO dX11_init_170 (fun ad21 had => ?_)
  obtain ⟨μ21, hm21⟩ : ∃ μ21 : zMem, μ21 = zrow μ20 148 (fun _ => 0) := ⟨_, rfl⟩
  rw [← hm21]
  have hk : ∀ q, q < 127 → μ21 q = μ q := fun q h => Eq.trans (b := μ20 q) (by rw [hm21, zrow_ne (by omega)]) (hk q h)
  have hz : ∀ q, 127 ≤ q → q < 149 → ∀ j, μ21 q j = 0 := fun q h1 h2 j => by
    rw [hm21]
    by_cases e : q = 148
    · subst e; rw [zrow_eq]
    · rw [zrow_ne e]; exact hz q h1 (by omega) j
  refine zY.putF (p := 127) (fl := [(0, 128), (0, 129), (0, 130), (0, 131), (0, 132), (0, 133), (0, 134), (0, 135), (1, 0), (1, 0), (0, 136), (1, 0), (0, 137), (0, 138), (1, 0), (1, 0), (1, 0), (0, 139), (0, 140), (0, 141), (0, 142), (0, 143), (0, 144), (0, 145), (0, 146), (0, 147), (3, 0), (3, 0), (1, 0), (1, 0)]) (fl' := [(0, 128), (0, 129), (0, 130), (0, 131), (0, 132), (0, 133), (0, 134), (0, 135), (1, 0), (1, 0), (0, 136), (1, 0), (0, 137), (0, 138), (1, 0), (1, 0), (1, 0), (0, 139), (0, 140), (0, 141), (0, 142), (0, 143), (0, 144), (0, 145), (0, 146), (0, 147), (0, 148), (3, 0), (1, 0), (1, 0)]) zFF_X11_70 hN (by decide) (by decide) rfl hO dX11_init_172 ?_
  refine zY.aload_n hO dX11_init_175 rfl ?_
  refine zY.iconst hO dX11_init_176 ?_
  refine zY.newZ (sh' := (zu 127 11 [(0, 128), (0, 129), (0, 130), (0, 131), (0, 132), (0, 133), (0, 134), (0, 135), (1, 0), (1, 0), (0, 136), (1, 0), (0, 137), (0, 138), (1, 0), (1, 0), (1, 0), (0, 139), (0, 140), (0, 141), (0, 142), (0, 143), (0, 144), (0, 145), (0, 146), (0, 147), (0, 148), (3, 0), (1, 0), (1, 0)] sh)) (len := 2) (n1 := 150) (c1 := 22) (s1 := 9080) (by omega) (by decide) hG had (by decide) (by decide) (zsok_zu hs0 (by decide) (by decide +kernel)) ((zu_gt (by decide)).trans rfl) (fun _ _ => rfl) (zlwL_some (zlw_P (Or.inl (by decide))) (zlwL_none zlwL_nil)) (zlwS_cons (zlw_P (Or.inl (by decide))) zlwS_nil) rfl rfl rfl ⟨by decide, by decide⟩ hO dX11_init_177 (fun ad22 had => ?_)
  obtain ⟨μ22, hm22⟩ : ∃ μ22 : zMem, μ22 = zrow μ21 149 (fun _ => 0) := ⟨_, rfl⟩
  rw [← hm22]
  have hk : ∀ q, q < 127 → μ22 q = μ q := fun q h => Eq.trans (b := μ21 q) (by rw [hm22, zrow_ne (by omega)]) (hk q h)
  have hz : ∀ q, 127 ≤ q → q < 150 → ∀ j, μ22 q j = 0 := fun q h1 h2 j => by
    rw [hm22]
    by_cases e : q = 149
    · subst e; rw [zrow_eq]
    · rw [zrow_ne e]; exact hz q h1 (by omega) j
  refine zY.putF (p := 127) (fl := [(0, 128), (0, 129), (0, 130), (0, 131), (0, 132), (0, 133), (0, 134), (0, 135), (1, 0), (1, 0), (0, 136), (1, 0), (0, 137), (0, 138), (1, 0), (1, 0), (1, 0), (0, 139), (0, 140), (0, 141), (0, 142), (0, 143), (0, 144), (0, 145), (0, 146), (0, 147), (0, 148), (3, 0), (1, 0), (1, 0)]) (fl' := [(0, 128), (0, 129), (0, 130), (0, 131), (0, 132), (0, 133), (0, 134), (0, 135), (1, 0), (1, 0), (0, 136), (1, 0), (0, 137), (0, 138), (1, 0), (1, 0), (1, 0), (0, 139), (0, 140), (0, 141), (0, 142), (0, 143), (0, 144), (0, 145), (0, 146), (0, 147), (0, 148), (0, 149), (1, 0), (1, 0)]) zFF_X11_73 hN (by decide) (by decide) rfl hO dX11_init_179 ?_
  refine zY.iconst hO dX11_init_182 ?_
  refine zY.istore1 (zc1_P _) hO dX11_init_183 ?_
  have L184 : ∀ i : Nat, i ≤ 10 → ∀ μ1 : zMem, (∀ q, q ≠ 129 → q ≠ 130 → μ1 q = μ22 q) → (∀ j, j < i → μ1 129 j = 1 ∧ μ1 130 j = -6) → zY Γ (150, (zu 127 11 [(0, 128), (0, 129), (0, 130), (0, 131), (0, 132), (0, 133), (0, 134), (0, 135), (1, 0), (1, 0), (0, 136), (1, 0), (0, 137), (0, 138), (1, 0), (1, 0), (1, 0), (0, 139), (0, 140), (0, 141), (0, 142), (0, 143), (0, 144), (0, 145), (0, 146), (0, 147), (0, 148), (0, 149), (1, 0), (1, 0)] sh), ad22, 22, 9080) 184 [some (zP 127), some (zI (i : Int))] [] μ1 := by
    refine zdown (10) (fun i hi_i ih184 => ?_)
    intro μ1 hN1 hJ
    refine zY.iload_n hO dX11_init_184 rfl ?_
    refine zY.bipush hO dX11_init_185 (by decide) ?_
    refine zY.icmp_ge (tgt := 211) ⟨by omega, by omega⟩ ⟨by omega, by omega⟩ hO dX11_init_187 (by decide) (fun c187 => ?_) (fun c187 => ?_)
    ·
      refine zY.iconst hO dX11_init_211 ?_
      refine zY.istore1 (zc1_P _) hO dX11_init_212 ?_
      have L213 : ∀ i : Nat, i ≤ 6 → ∀ μ2 : zMem, (∀ q, q ≠ 129 → q ≠ 130 → q ≠ 133 → q ≠ 134 → q ≠ 135 → μ2 q = μ22 q) → (∀ j, j < 10 → μ2 129 j = 1 ∧ μ2 130 j = -6) → (∀ j, j < i → μ2 133 j = 9 ∧ μ2 134 j = 2 ∧ μ2 135 j = -6) → zY Γ (150, (zu 127 11 [(0, 128), (0, 129), (0, 130), (0, 131), (0, 132), (0, 133), (0, 134), (0, 135), (1, 0), (1, 0), (0, 136), (1, 0), (0, 137), (0, 138), (1, 0), (1, 0), (1, 0), (0, 139), (0, 140), (0, 141), (0, 142), (0, 143), (0, 144), (0, 145), (0, 146), (0, 147), (0, 148), (0, 149), (1, 0), (1, 0)] sh), ad22, 22, 9080) 213 [some (zP 127), some (zI (i : Int))] [] μ2 := by
        refine zdown (6) (fun i hi_i ih213 => ?_)
        intro μ2 hN2 hJ2 hJ3
        refine zY.iload_n hO dX11_init_213 rfl ?_
        refine zY.bipush hO dX11_init_214 (by decide) ?_
        refine zY.icmp_ge (tgt := 248) ⟨by omega, by omega⟩ ⟨by omega, by omega⟩ hO dX11_init_216 (by decide) (fun c216 => ?_) (fun c216 => ?_)
        ·
          refine zY.aload_n hO dX11_init_248 rfl ?_
          refine zY.iconst hO dX11_init_249 ?_
          refine zY.putI zfp_X11_77 (by decide : 127 < 150) (zu_eq : (zu 127 11 [(0, 128), (0, 129), (0, 130), (0, 131), (0, 132), (0, 133), (0, 134), (0, 135), (1, 0), (1, 0), (0, 136), (1, 0), (0, 137), (0, 138), (1, 0), (1, 0), (1, 0), (0, 139), (0, 140), (0, 141), (0, 142), (0, 143), (0, 144), (0, 145), (0, 146), (0, 147), (0, 148), (0, 149), (1, 0), (1, 0)] sh) 127 = (0, 11, [(0, 128), (0, 129), (0, 130), (0, 131), (0, 132), (0, 133), (0, 134), (0, 135), (1, 0), (1, 0), (0, 136), (1, 0), (0, 137), (0, 138), (1, 0), (1, 0), (1, 0), (0, 139), (0, 140), (0, 141), (0, 142), (0, 143), (0, 144), (0, 145), (0, 146), (0, 147), (0, 148), (0, 149), (1, 0), (1, 0)])) rfl hO dX11_init_250 ?_
          exact zY.cret rfl hR (by
                have hi6 : i = 6 := by omega
                subst hi6
                have z : ∀ q, q ≠ 129 → q ≠ 130 → q ≠ 133 → q ≠ 134 → q ≠ 135 → 127 < q → q < 150 → ∀ j, zwr μ2 127 8 5 q j = 0 := fun q a b c d2 e2 h1 h2 j => by
                  rw [zwr_ne (by omega), hN2 q a b c d2 e2]; exact hz q (by omega) h2 j
                have f : ∀ j, zwr μ2 127 8 5 127 j = if j = 8 then 5 else 0 := fun j => by
                  show (if 127 = 127 then (if j = 8 then 5 else μ2 127 j) else μ2 127 j) = _
                  rw [if_pos rfl, hN2 127 (by decide) (by decide) (by decide) (by decide) (by decide), hz 127 (by decide) (by decide) j]
                refine ⟨⟨zD0_WF, ⟨fun t h1 h2 s hs => ?_, fun t h1 h2 w hw => ?_, fun w hw i _ => ?_, fun s hs i _ => ?_, ?_, ?_⟩, ⟨fun j _ => ?_, ?_⟩, ?_, ?_⟩, fun q hq => ?_⟩
                · have h3 := hJ3 s hs
                  have : t = 4 ∨ t = 5 ∨ t = 6 ∨ t = 7 := by omega
                  rcases this with rfl | rfl | rfl | rfl
                  · rw [z 132 (by decide) (by decide) (by decide) (by decide) (by decide) (by decide) (by decide)]; simp [zD0]
                  · rw [zwr_ne (by decide), h3.1]; simp [zD0]
                  · rw [zwr_ne (by decide), h3.2.1]; simp [zD0]
                  · rw [zwr_ne (by decide), h3.2.2]; simp [zD0]
                · have h3 := hJ2 w hw
                  have : t = 1 ∨ t = 2 := by omega
                  rcases this with rfl | rfl
                  · rw [zwr_ne (by decide), h3.1]; simp [zD0]
                  · rw [zwr_ne (by decide), h3.2]; simp [zD0]
                · rw [z 128 (by decide) (by decide) (by decide) (by decide) (by decide) (by decide) (by decide)]; simp [zD0]
                · rw [z 131 (by decide) (by decide) (by decide) (by decide) (by decide) (by decide) (by decide)]; simp [zD0]
                · rw [f]; simp [zD0]
                · rw [f]; simp [zD0]
                · rw [z 136 (by decide) (by decide) (by decide) (by decide) (by decide) (by decide) (by decide)]; simp [zD0]
                · rw [f]; simp [zD0]
                · exact z 149 (by decide) (by decide) (by decide) (by decide) (by decide) (by decide) (by decide) 0
                · exact z 149 (by decide) (by decide) (by decide) (by decide) (by decide) (by decide) (by decide) 1
                · rw [zwr_ne (by omega), hN2 q (by omega) (by omega) (by omega) (by omega) (by omega)]; exact hk q hq) had rfl (fun q _ => zu_zd rfl q) rfl rfl hO dX11_init_253
        ·
          refine zY.aload_n hO dX11_init_219 rfl ?_
          refine zY.getR zfl_X11_25 (by decide : 127 < 150) (zu_eq : (zu 127 11 [(0, 128), (0, 129), (0, 130), (0, 131), (0, 132), (0, 133), (0, 134), (0, 135), (1, 0), (1, 0), (0, 136), (1, 0), (0, 137), (0, 138), (1, 0), (1, 0), (1, 0), (0, 139), (0, 140), (0, 141), (0, 142), (0, 143), (0, 144), (0, 145), (0, 146), (0, 147), (0, 148), (0, 149), (1, 0), (1, 0)] sh) 127 = (0, 11, [(0, 128), (0, 129), (0, 130), (0, 131), (0, 132), (0, 133), (0, 134), (0, 135), (1, 0), (1, 0), (0, 136), (1, 0), (0, 137), (0, 138), (1, 0), (1, 0), (1, 0), (0, 139), (0, 140), (0, 141), (0, 142), (0, 143), (0, 144), (0, 145), (0, 146), (0, 147), (0, 148), (0, 149), (1, 0), (1, 0)])) rfl hO dX11_init_220 ?_
          refine zY.iload_n hO dX11_init_223 rfl ?_
          refine zY.bipush hO dX11_init_224 (by decide) ?_
          refine zY.iast (i) rfl (by omega) (by decide) (by decide : 133 < 150) ((zu_gt (by decide)).trans rfl : (zu 127 11 [(0, 128), (0, 129), (0, 130), (0, 131), (0, 132), (0, 133), (0, 134), (0, 135), (1, 0), (1, 0), (0, 136), (1, 0), (0, 137), (0, 138), (1, 0), (1, 0), (1, 0), (0, 139), (0, 140), (0, 141), (0, 142), (0, 143), (0, 144), (0, 145), (0, 146), (0, 147), (0, 148), (0, 149), (1, 0), (1, 0)] sh) 133 = (1, 6, [])) hO dX11_init_226 ?_
          refine zY.aload_n hO dX11_init_227 rfl ?_
          refine zY.getR zfl_X11_28 (by decide : 127 < 150) (zu_eq : (zu 127 11 [(0, 128), (0, 129), (0, 130), (0, 131), (0, 132), (0, 133), (0, 134), (0, 135), (1, 0), (1, 0), (0, 136), (1, 0), (0, 137), (0, 138), (1, 0), (1, 0), (1, 0), (0, 139), (0, 140), (0, 141), (0, 142), (0, 143), (0, 144), (0, 145), (0, 146), (0, 147), (0, 148), (0, 149), (1, 0), (1, 0)] sh) 127 = (0, 11, [(0, 128), (0, 129), (0, 130), (0, 131), (0, 132), (0, 133), (0, 134), (0, 135), (1, 0), (1, 0), (0, 136), (1, 0), (0, 137), (0, 138), (1, 0), (1, 0), (1, 0), (0, 139), (0, 140), (0, 141), (0, 142), (0, 143), (0, 144), (0, 145), (0, 146), (0, 147), (0, 148), (0, 149), (1, 0), (1, 0)])) rfl hO dX11_init_228 ?_
          refine zY.iload_n hO dX11_init_231 rfl ?_
          refine zY.iconst hO dX11_init_232 ?_
          refine zY.iast (i) rfl (by omega) (by decide) (by decide : 134 < 150) ((zu_gt (by decide)).trans rfl : (zu 127 11 [(0, 128), (0, 129), (0, 130), (0, 131), (0, 132), (0, 133), (0, 134), (0, 135), (1, 0), (1, 0), (0, 136), (1, 0), (0, 137), (0, 138), (1, 0), (1, 0), (1, 0), (0, 139), (0, 140), (0, 141), (0, 142), (0, 143), (0, 144), (0, 145), (0, 146), (0, 147), (0, 148), (0, 149), (1, 0), (1, 0)] sh) 134 = (1, 6, [])) hO dX11_init_233 ?_
          refine zY.aload_n hO dX11_init_234 rfl ?_
          refine zY.getR zfl_X11_31 (by decide : 127 < 150) (zu_eq : (zu 127 11 [(0, 128), (0, 129), (0, 130), (0, 131), (0, 132), (0, 133), (0, 134), (0, 135), (1, 0), (1, 0), (0, 136), (1, 0), (0, 137), (0, 138), (1, 0), (1, 0), (1, 0), (0, 139), (0, 140), (0, 141), (0, 142), (0, 143), (0, 144), (0, 145), (0, 146), (0, 147), (0, 148), (0, 149), (1, 0), (1, 0)] sh) 127 = (0, 11, [(0, 128), (0, 129), (0, 130), (0, 131), (0, 132), (0, 133), (0, 134), (0, 135), (1, 0), (1, 0), (0, 136), (1, 0), (0, 137), (0, 138), (1, 0), (1, 0), (1, 0), (0, 139), (0, 140), (0, 141), (0, 142), (0, 143), (0, 144), (0, 145), (0, 146), (0, 147), (0, 148), (0, 149), (1, 0), (1, 0)])) rfl hO dX11_init_235 ?_
          refine zY.iload_n hO dX11_init_238 rfl ?_
          refine zY.bipush hO dX11_init_239 (by decide) ?_
          refine zY.iast (i) rfl (by omega) (by decide) (by decide : 135 < 150) ((zu_gt (by decide)).trans rfl : (zu 127 11 [(0, 128), (0, 129), (0, 130), (0, 131), (0, 132), (0, 133), (0, 134), (0, 135), (1, 0), (1, 0), (0, 136), (1, 0), (0, 137), (0, 138), (1, 0), (1, 0), (1, 0), (0, 139), (0, 140), (0, 141), (0, 142), (0, 143), (0, 144), (0, 145), (0, 146), (0, 147), (0, 148), (0, 149), (1, 0), (1, 0)] sh) 135 = (1, 6, [])) hO dX11_init_241 ?_
          refine zY.iinc1 _ rfl (zc1_P _) hO dX11_init_242 ?_
          refine zY.goto (tgt := 213) hO dX11_init_245 (by decide) ?_
          exact ih213 (by omega) _ (fun q a b c d2 e2 => by rw [zwr_ne e2, zwr_ne d2, zwr_ne c]; exact hN2 q a b c d2 e2) (fun j h => by rw [zwr_ne (by decide), zwr_ne (by decide), zwr_ne (by decide), zwr_ne (by decide), zwr_ne (by decide), zwr_ne (by decide)]; exact hJ2 j h) (fun j h => by
            by_cases e : j = i
            · subst e; simp [zwr]
            · have h3 := hJ3 j (by omega)
              simp [zwr, e, h3])
      exact L213 0 (by omega) μ1 (fun q a b _ _ _ => hN1 q a b) (fun j h => hJ j (by omega)) (fun j h => by omega)
    ·
      refine zY.aload_n hO dX11_init_190 rfl ?_
      refine zY.getR zfl_X11_13 (by decide : 127 < 150) (zu_eq : (zu 127 11 [(0, 128), (0, 129), (0, 130), (0, 131), (0, 132), (0, 133), (0, 134), (0, 135), (1, 0), (1, 0), (0, 136), (1, 0), (0, 137), (0, 138), (1, 0), (1, 0), (1, 0), (0, 139), (0, 140), (0, 141), (0, 142), (0, 143), (0, 144), (0, 145), (0, 146), (0, 147), (0, 148), (0, 149), (1, 0), (1, 0)] sh) 127 = (0, 11, [(0, 128), (0, 129), (0, 130), (0, 131), (0, 132), (0, 133), (0, 134), (0, 135), (1, 0), (1, 0), (0, 136), (1, 0), (0, 137), (0, 138), (1, 0), (1, 0), (1, 0), (0, 139), (0, 140), (0, 141), (0, 142), (0, 143), (0, 144), (0, 145), (0, 146), (0, 147), (0, 148), (0, 149), (1, 0), (1, 0)])) rfl hO dX11_init_191 ?_
      refine zY.iload_n hO dX11_init_194 rfl ?_
      refine zY.iconst hO dX11_init_195 ?_
      refine zY.iast (i) rfl (by omega) (by decide) (by decide : 129 < 150) ((zu_gt (by decide)).trans rfl : (zu 127 11 [(0, 128), (0, 129), (0, 130), (0, 131), (0, 132), (0, 133), (0, 134), (0, 135), (1, 0), (1, 0), (0, 136), (1, 0), (0, 137), (0, 138), (1, 0), (1, 0), (1, 0), (0, 139), (0, 140), (0, 141), (0, 142), (0, 143), (0, 144), (0, 145), (0, 146), (0, 147), (0, 148), (0, 149), (1, 0), (1, 0)] sh) 129 = (1, 10, [])) hO dX11_init_196 ?_
      refine zY.aload_n hO dX11_init_197 rfl ?_
      refine zY.getR zfl_X11_16 (by decide : 127 < 150) (zu_eq : (zu 127 11 [(0, 128), (0, 129), (0, 130), (0, 131), (0, 132), (0, 133), (0, 134), (0, 135), (1, 0), (1, 0), (0, 136), (1, 0), (0, 137), (0, 138), (1, 0), (1, 0), (1, 0), (0, 139), (0, 140), (0, 141), (0, 142), (0, 143), (0, 144), (0, 145), (0, 146), (0, 147), (0, 148), (0, 149), (1, 0), (1, 0)] sh) 127 = (0, 11, [(0, 128), (0, 129), (0, 130), (0, 131), (0, 132), (0, 133), (0, 134), (0, 135), (1, 0), (1, 0), (0, 136), (1, 0), (0, 137), (0, 138), (1, 0), (1, 0), (1, 0), (0, 139), (0, 140), (0, 141), (0, 142), (0, 143), (0, 144), (0, 145), (0, 146), (0, 147), (0, 148), (0, 149), (1, 0), (1, 0)])) rfl hO dX11_init_198 ?_
      refine zY.iload_n hO dX11_init_201 rfl ?_
      refine zY.bipush hO dX11_init_202 (by decide) ?_
      refine zY.iast (i) rfl (by omega) (by decide) (by decide : 130 < 150) ((zu_gt (by decide)).trans rfl : (zu 127 11 [(0, 128), (0, 129), (0, 130), (0, 131), (0, 132), (0, 133), (0, 134), (0, 135), (1, 0), (1, 0), (0, 136), (1, 0), (0, 137), (0, 138), (1, 0), (1, 0), (1, 0), (0, 139), (0, 140), (0, 141), (0, 142), (0, 143), (0, 144), (0, 145), (0, 146), (0, 147), (0, 148), (0, 149), (1, 0), (1, 0)] sh) 130 = (1, 10, [])) hO dX11_init_204 ?_
      refine zY.iinc1 _ rfl (zc1_P _) hO dX11_init_205 ?_
      refine zY.goto (tgt := 184) hO dX11_init_208 (by decide) ?_
      exact ih184 (by omega) _ (fun q a b => by rw [zwr_ne b, zwr_ne a]; exact hN1 q a b) (fun j h => by
        by_cases e : j = i
        · subst e; simp [zwr]
        · have h3 := hJ j (by omega)
          simp [zwr, e, h3])
  exact L184 0 (by omega) μ22 (fun _ _ _ => rfl) (fun j h => by omega)
