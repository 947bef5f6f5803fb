/-! the model: first, most -/
theorem zsum_pos {f : Nat → Int} : ∀ k, 0 < zsum f k → ∃ x, x < k ∧ 0 < f x
  | 0, h => by simp [zsum] at h
  | k + 1, h => by
    simp only [zsum] at h
    by_cases h1 : 0 < f k
    · exact ⟨k, by omega, h1⟩
    · obtain ⟨x, h2, h3⟩ := zsum_pos (f := f) k (by omega)
      exact ⟨x, by omega, h3⟩
theorem zsum_nq {f : Nat → Int} : ∀ k, (∀ x, x < k → 0 ≤ f x) → 0 ≤ zsum f k
  | 0, _ => by simp [zsum]
  | k + 1, h => by
    simp only [zsum]
    have h1 := zsum_nq k (fun x hx => h x (by omega))
    have h2 := h k (by omega)
    omega
theorem zwt_nn {D : zBk} {want : Nat → Int} {a b : Int} : ∀ k j, 0 ≤ zwt D want a b k j
  | 0, j => by simp [zwt]
  | k + 1, j => by
    simp only [zwt]
    split
    · unfold zwv
      split
      · decide
      · split
        · refine zsum_nq 6 (fun s _ => ?_)
          split
          · exact zwt_nn k _
          · exact Int.le_refl 0
        · exact Int.le_refl 0
    · exact zwt_nn k j
/-- how many orders from a set on -/
abbrev zt0 (D : zBk) : Nat → Int := zwt D zno (-6) (-6) 64
theorem zt0_eq {D : zBk} {set : Nat} (h64 : set < 64) (h : set &&& zthD D = set) (hne : set ≠ zthD D) : zt0 D set = zsum (zgs D zno (-6) (-6) (zt0 D) set) 6 := by
  show zwt D zno (-6) (-6) 64 set = _
  rw [zwt_eq h64, zwv_1 h, if_neg hne, Int.zero_add]
theorem znx_some {D : zBk} {set : Nat} (h64 : set < 64) (h : set &&& zthD D = set) (hne : set ≠ zthD D) (hp : 0 < zt0 D set) : znx D zno (zt0 D) set ≠ -6 := by
  intro hz
  rw [zt0_eq h64 h hne] at hp
  obtain ⟨s, h1, h2⟩ := zsum_pos 6 hp
  have h3 := zfst_none _ 6 0 hz s (by omega) (by omega)
  apply h3
  unfold zgs at h2
  by_cases hc : zmy D zno set s = true ∧ ¬ ((s : Int) = -6 ∧ set.testBit (-6 : Int).toNat = false)
  · rw [if_pos hc] at h2
    rw [hc.1, decide_eq_true h2]; rfl
  · rw [if_neg hc] at h2
    omega
theorem znx_no {D : zBk} {set : Nat} (h64 : set < 64) (h : set &&& zthD D = set) (hz : set = zthD D ∨ zt0 D set = 0) : znx D zno (zt0 D) set = -6 := by
  refine zfst_no (fun s hs => ?_)
  intro hp
  rw [Bool.and_eq_true] at hp
  rcases hz with hz | hz
  · have h2 := zmy_not hp.1
    rw [hz, h2.2] at h2
    cases h2.1
  · by_cases hne : set = zthD D
    · have h2 := zmy_not hp.1
      rw [hne, h2.2] at h2
      cases h2.1
    · rw [zt0_eq h64 h hne] at hz
      have h3 : ∀ x, x < 6 → 0 ≤ zgs D zno (-6) (-6) (zt0 D) set x := fun x _ => by
        unfold zgs
        split
        · exact zwt_nn 64 _
        · exact Int.le_refl 0
      have h4 : 0 < zgs D zno (-6) (-6) (zt0 D) set s := by
        unfold zgs
        rw [if_pos ⟨hp.1, fun z => by omega⟩]
        exact of_decide_eq_true hp.2
      have h5 : ∀ k, s < k → k ≤ 6 → 0 < zsum (zgs D zno (-6) (-6) (zt0 D) set) k := by
        intro k hk hk6
        induction k with
        | zero => omega
        | succ k ih =>
          simp only [zsum]
          by_cases e : s = k
          · subst e
            have := zsum_nq s (fun x hx => h3 x (by omega))
            omega
          · have h6 := ih (by omega) (by omega)
            have h7 := h3 k (by omega)
            omega
      have := h5 6 hs (by omega)
      omega
theorem zb_pc1 : ∀ a : Nat, a < 64 → ∀ s : Nat, s < 6 → a.testBit s = false → zpc (a ||| 2 ^ s) = zpc a + 1 := by decide +kernel
theorem zb_pcl : ∀ a : Nat, a < 64 → ∀ b : Nat, b < 64 → a &&& b = a → a ≠ b → zpc a < zpc b := by decide +kernel
theorem zb_ors : ∀ a : Nat, a < 64 → ∀ b : Nat, b < 64 → a &&& b = a → ∀ s : Nat, s < 6 → b.testBit s = true → (a ||| 2 ^ s) &&& b = a ||| 2 ^ s := by decide +kernel
theorem znx_is {D : zBk} {set : Nat} {nq : Nat} (h : znx D zno (zt0 D) set = (nq : Int)) : nq < 6 ∧ zmy D zno set nq = true ∧ 0 < zt0 D (set ||| 2 ^ nq) ∧ ∀ j, j < nq → ¬ (zmy D zno set j = true ∧ 0 < zt0 D (set ||| 2 ^ j)) := by
  rcases zfst_b (fun s => zmy D zno set s && decide (0 < zt0 D (set ||| 2 ^ s))) 6 0 with h0 | ⟨h1, h2, h3, h4⟩
  · have : znx D zno (zt0 D) set = -6 := h0
    omega
  · have e : zfst (fun s => zmy D zno set s && decide (0 < zt0 D (set ||| 2 ^ s))) 0 6 = (nq : Int) := h
    rw [e] at h1 h2 h3 h4
    rw [Int.toNat_natCast, Bool.and_eq_true, decide_eq_true_eq] at h3
    refine ⟨by omega, h3.1, h3.2, fun j hj z => h4 j (by omega) (by omega) ?_⟩
    rw [Bool.and_eq_true, decide_eq_true_eq]
    exact z
theorem zlp_no {D : zBk} {i : Int} (hi : i < 0 ∨ zpc (zthD D) ≤ i) : ∀ k (place set : Nat), set < 64 → set &&& zthD D = set → zpc set = (place : Int) → zlp D zno (zt0 D) i k place set = -6
  | 0, _, _, _, _, _ => rfl
  | k + 1, place, set, h64, hs, hp => by
    simp only [zlp]
    by_cases hn : znx D zno (zt0 D) set = -6
    · rw [if_pos (Or.inl hn)]; exact hn
    · have hne : set ≠ zthD D := fun z => hn (znx_no h64 hs (Or.inl z))
      have h1 := zb_pcl set h64 _ (zthD_64 D) hs hne
      obtain ⟨nq, hnq⟩ : ∃ nq : Nat, znx D zno (zt0 D) set = (nq : Int) := by
        have hb : znx D zno (zt0 D) set = -6 ∨ 0 ≤ znx D zno (zt0 D) set := by
          rcases zfst_b (fun s => zmy D zno set s && decide (0 < zt0 D (set ||| 2 ^ s))) 6 0 with h0 | ⟨h1, _⟩
          · exact Or.inl h0
          · exact Or.inr (Int.le_trans (by omega) h1)
        exact ⟨(znx D zno (zt0 D) set).toNat, by omega⟩
      have h2 := znx_is hnq
      have h3 := zmy_not h2.2.1
      rw [if_neg (by omega), hnq, Int.toNat_natCast]
      exact zlp_no hi k (place + 1) _ (zb_lt64 set h64 nq h2.1) (zb_ors set h64 _ (zthD_64 D) hs nq h2.1 h3.2) (by rw [zb_pc1 set h64 nq h2.1 h3.1, hp]; rfl)
theorem zA_first_no {D : zBk} {i : Int} (h : zt0 D 0 = 0 ∨ ¬ (0 ≤ i ∧ i ≤ zpc (zthD D) - 1)) : zA_first D i = -6 := by
  unfold zA_first
  rcases h with h | h
  · show zlp D zno (zt0 D) i (5 + 1) 0 0 = -6
    simp only [zlp]
    have := znx_no (D := D) (set := 0) (by omega) (Nat.zero_and _) (Or.inr h)
    rw [if_pos (Or.inl this)]
    exact this
  · exact zlp_no (by omega) 6 0 0 (by omega) (Nat.zero_and _) (by decide)

set_option maxRecDepth 100000 in
set_option maxHeartbeats 4000000 in
theorem ct_X11_first {μ : zMem} {D : zBk} {K0 K1 : Option zBk} (hM : zMd D K0 K1 μ) {x : Int} (hx : zr x) : Ci kX11_first 8 150 zSX [zP 127, zI x] μ (fun a μ' => a = zA_first D x ∧ zScr μ μ') := by
  refine Ct.of [some (zP 127), some (zI x), none, none, none, none] rfl (Nat.le_of_ble_eq_true rfl) (by decide +kernel) (fun Γ ad hO hR => ?_)
  refine zY.aload_n hO dX11_first_0 rfl ?_
  refine zY.callV0iD (ct_X11_there hM) (by decide) zcal_X11_there zml_X11_96 (by decide : 127 < 150) rfl rfl (Nat.le_of_ble_eq_true rfl) rfl ⟨Nat.zero_le _, Nat.zero_le _⟩ hO dX11_first_1 ?_
  refine zY.istore2 (zc1_I _) hO dX11_first_4 ?_
  refine zY.aload_n hO dX11_first_5 rfl ?_
  refine zY.callV0v (ct_X11_findOrders hM) (by decide) zcal_X11_findOrders zml_X11_193 (by decide : 127 < 150) rfl rfl (Nat.le_of_ble_eq_true rfl) rfl ⟨Nat.zero_le _, Nat.zero_le _⟩ hO dX11_first_6 (fun μ1 hq1 => ?_)
  obtain ⟨hs1, hK⟩ := hq1
  have hth := zthD_64 D
  have hpc := zpc_b (zthD D)
  refine zY.aload_n hO dX11_first_9 rfl ?_
  refine zY.getR zfl_X11_46 (by decide : 127 < 150) rfl rfl hO dX11_first_10 ?_
  refine zY.iconst hO dX11_first_13 ?_
  refine zY.iald (0) rfl (by omega) (by decide) (by decide : 140 < 150) rfl hO dX11_first_14 ?_
  refine zY.as (b := zt0 D 0) (hK 0 (by omega)) ?_
  refine zY.if_eq (tgt := 34) (zwt_zr 64 0) hO dX11_first_15 (by decide) (fun c15 => ?_) (fun c15 => ?_)
  ·
    refine zY.bipush hO dX11_first_34 (by decide) ?_
    exact zY.iret rfl ⟨_, rfl, ⟨(zA_first_no (Or.inl c15)).symm, hs1⟩⟩ hR hO dX11_first_36
  ·
    refine zY.iload_n hO dX11_first_18 rfl ?_
    refine zY.i2l hx hO dX11_first_19 ?_
    refine zY.lconst0 hO dX11_first_20 ?_
    refine zY.iload_n hO dX11_first_21 rfl ?_
    refine zY.callS1iD (ct_X11_ones hth) (by decide) zcal_X11_ones zml_X11_196 (Nat.le_of_ble_eq_true rfl) rfl ⟨Nat.zero_le _, Nat.zero_le _⟩ hO dX11_first_22 ?_
    refine zY.iconst hO dX11_first_25 ?_
    refine zY.isub hO dX11_first_26 ?_
    refine zY.i2l ⟨by omega, by omega⟩ hO dX11_first_27 ?_
    refine zY.callS3iD (ct_X11_in (a := x) (b := 0) (c := zpc (zthD D) - 1) ⟨by omega, by omega⟩ ⟨by omega, by omega⟩ ⟨by omega, by omega⟩) (by decide) zcal_X11_in zml_X11_83 (Nat.le_of_ble_eq_true rfl) rfl ⟨Nat.zero_le _, Nat.zero_le _⟩ hO dX11_first_28 ?_
    refine zY.if_ne (tgt := 37) zr_b hO dX11_first_31 (by decide) (fun c31 => ?_) (fun c31 => ?_)
    ·
      replace c31 := zb1.mp c31
      obtain ⟨iq, hiq⟩ : ∃ iq : Nat, x = (iq : Int) := ⟨x.toNat, by omega⟩
      subst hiq
      refine zY.iconst hO dX11_first_37 ?_
      refine zY.istore3 (zc1_I _) hO dX11_first_38 ?_
      refine zY.iconst hO dX11_first_39 ?_
      refine zY.istore4 (zc1_I _) hO dX11_first_40 ?_
      refine zY.iconst hO dX11_first_42 ?_
      refine zY.istore5 (zc1_I _) hO dX11_first_43 ?_
      have L45 : ∀ k : Nat, k ≤ iq + 1 → ∀ (set : Nat) (sq : Int) (μ2 : zMem), zScr μ μ2 → (∀ j, j < 64 → μ2 140 j = zt0 D j) → set < 64 → set &&& zthD D = set → 0 < zt0 D set → zpc set = (k : Int) → (k ≤ iq → zlp D zno (zt0 D) (iq : Int) (6 - k) k set = zA_first D (iq : Int)) → (k = iq + 1 → sq = zA_first D (iq : Int)) → zY Γ (150, zSX, ad, 0, 0) 45 [some (zP 127), some (zI (iq : Int)), some (zI (zthD D : Int)), some (zI (set : Int)), some (zI sq), some (zI (k : Int))] [] μ2 := by
        refine zdown (iq + 1) (fun k hi_k ih45 => ?_)
        intro set sq μ2 hs2 hK2 h64 hsb hps hpk hA hB
        refine zY.iload hO dX11_first_45 rfl ?_
        refine zY.iload_n hO dX11_first_47 rfl ?_
        refine zY.icmp_gt (tgt := 116) ⟨by omega, by omega⟩ ⟨by omega, by omega⟩ hO dX11_first_48 (by decide) (fun c48 => ?_) (fun c48 => ?_)
        ·
          refine zY.iload hO dX11_first_116 rfl ?_
          exact zY.iret rfl ⟨_, rfl, ⟨hB (by omega), hs2⟩⟩ hR hO dX11_first_118
        ·
          have hne : set ≠ zthD D := fun z => by rw [z] at hpk; omega
          have hns := znx_some h64 hsb hne hps
          obtain ⟨nq, hnq⟩ : ∃ nq : Nat, znx D zno (zt0 D) set = (nq : Int) := by
            have hb : znx D zno (zt0 D) set = -6 ∨ 0 ≤ znx D zno (zt0 D) set := by
              rcases zfst_b (fun s => zmy D zno set s && decide (0 < zt0 D (set ||| 2 ^ s))) 6 0 with h0 | ⟨h1, _⟩
              · exact Or.inl h0
              · exact Or.inr (Int.le_trans (by omega) h1)
            exact ⟨(znx D zno (zt0 D) set).toNat, by omega⟩
          have hnx := znx_is hnq
          have hnb := zmy_not hnx.2.1
          have hsub := zsub_of h64 hsb
          refine zY.iconst hO dX11_first_51 ?_
          refine zY.istore4 (zc1_I _) hO dX11_first_52 ?_
          have L54 : ∀ s : Nat, s ≤ nq → ∀ μ3 : zMem, zScr μ μ3 → (∀ j, j < 64 → μ3 140 j = zt0 D j) → zY Γ (150, zSX, ad, 0, 0) 54 [some (zP 127), some (zI (iq : Int)), some (zI (zthD D : Int)), some (zI (set : Int)), some (zI (s : Int)), some (zI (k : Int))] [] μ3 := by
            refine zdown (nq) (fun s hi_s ih54 => ?_)
            intro μ3 hs3 hK3
            have hM3 := hs3.md hM
            have hs6 : s < 6 := by omega
            have hgo : ¬ (zmy D zno set s = true ∧ 0 < zt0 D (set ||| 2 ^ s)) → s < nq := fun z => by
              rcases Nat.lt_or_ge s nq with h | h
              · exact h
              · have e : s = nq := by omega
                rw [e] at z
                exact absurd ⟨hnx.2.1, hnx.2.2.1⟩ z
            refine zY.iload_n hO dX11_first_54 rfl ?_
            refine zY.iload hO dX11_first_55 rfl ?_
            have hs7 : s < 7 := by omega
            refine zY.ishr (c := ((zthD D / 2 ^ s : Nat) : Int)) (zb_shr _ hth s hs7) hO dX11_first_57 ?_
            refine zY.iconst hO dX11_first_58 ?_
            have hlt : zthD D / 2 ^ s < 64 := Nat.lt_of_le_of_lt (Nat.div_le_self _ _) hth
            have hbit := zb_bit _ hth s hs6
            refine zY.iand (c := ((zthD D / 2 ^ s % 2 : Nat) : Int)) (zb_and1 _ hlt) hO dX11_first_59 ?_
            refine zY.if_eq (tgt := 97) ⟨by omega, by omega⟩ hO dX11_first_60 (by decide) (fun c60 => ?_) (fun c60 => ?_)
            ·
              have hnp : ¬ (zmy D zno set s = true ∧ 0 < zt0 D (set ||| 2 ^ s)) := fun z => by have := hbit.mpr (zmy_not z.1).2; omega
              refine zY.iinc4 _ rfl (zc1_I _) hO dX11_first_97 ?_
              refine zY.goto (tgt := 54) hO dX11_first_100 (by decide) ?_
              exact ih54 (hgo hnp) μ3 hs3 hK3
            ·
              have hb1 := hbit.mp (by omega)
              refine zY.iload_n hO dX11_first_63 rfl ?_
              refine zY.iload hO dX11_first_64 rfl ?_
              refine zY.ishr (c := ((set / 2 ^ s : Nat) : Int)) (zb_shr _ h64 s hs7) hO dX11_first_66 ?_
              refine zY.iconst hO dX11_first_67 ?_
              have hlt2 : set / 2 ^ s < 64 := Nat.lt_of_le_of_lt (Nat.div_le_self _ _) h64
              have hbit2 := zb_bit _ h64 s hs6
              refine zY.iand (c := ((set / 2 ^ s % 2 : Nat) : Int)) (zb_and1 _ hlt2) hO dX11_first_68 ?_
              refine zY.iconst hO dX11_first_69 ?_
              refine zY.icmp_eq (tgt := 97) ⟨by omega, by omega⟩ ⟨by omega, by omega⟩ hO dX11_first_70 (by decide) (fun c70 => ?_) (fun c70 => ?_)
              ·
                have hnp : ¬ (zmy D zno set s = true ∧ 0 < zt0 D (set ||| 2 ^ s)) := fun z => by have h1 := (zmy_not z.1).1; rw [hbit2.mp (by omega)] at h1; cases h1
                refine zY.iinc4 _ rfl (zc1_I _) hO dX11_first_97 ?_
                refine zY.goto (tgt := 54) hO dX11_first_100 (by decide) ?_
                exact ih54 (hgo hnp) μ3 hs3 hK3
              ·
                have hb2 : set.testBit s = false := eq_false_of_ne_true (fun z => by have := hbit2.mpr z; omega)
                refine zY.aload_n hO dX11_first_73 rfl ?_
                refine zY.getR zfl_X11_46 (by decide : 127 < 150) rfl rfl hO dX11_first_74 ?_
                refine zY.iload_n hO dX11_first_77 rfl ?_
                refine zY.iconst hO dX11_first_78 ?_
                refine zY.iload hO dX11_first_79 rfl ?_
                refine zY.ishl (c := ((2 ^ s : Nat) : Int)) (zb_shl s hs6) hO dX11_first_81 ?_
                refine zY.ior (c := ((set ||| 2 ^ s : Nat) : Int)) (zb_or _ h64 _ (zb_two s hs6)) hO dX11_first_82 ?_
                refine zY.iald (set ||| 2 ^ s) rfl (zb_lt64 set h64 s hs6) (by decide) (by decide : 140 < 150) rfl hO dX11_first_83 ?_
                refine zY.as (b := zt0 D (set ||| 2 ^ s)) (hK3 _ (zb_lt64 set h64 s hs6)) ?_
                have hnn : 0 ≤ zt0 D (set ||| 2 ^ s) := zwt_nn 64 _
                refine zY.if_eq (tgt := 97) (zwt_zr 64 _) hO dX11_first_84 (by decide) (fun c84 => ?_) (fun c84 => ?_)
                ·
                  have hnp : ¬ (zmy D zno set s = true ∧ 0 < zt0 D (set ||| 2 ^ s)) := fun z => by have h1 := z.2; omega
                  refine zY.iinc4 _ rfl (zc1_I _) hO dX11_first_97 ?_
                  refine zY.goto (tgt := 54) hO dX11_first_100 (by decide) ?_
                  exact ih54 (hgo hnp) μ3 hs3 hK3
                ·
                  have hb3 : 0 < zt0 D (set ||| 2 ^ s) := by omega
                  refine zY.aload_n hO dX11_first_87 rfl ?_
                  refine zY.iload_n hO dX11_first_88 rfl ?_
                  refine zY.iload hO dX11_first_89 rfl ?_
                  refine zY.callV2i (ct_X11_canBehind hM3 h64 hsub (s := s) hs6) (by decide) zcal_X11_canBehind zml_X11_189 (by decide : 127 < 150) rfl rfl (Nat.le_of_ble_eq_true rfl) rfl ⟨Nat.zero_le _, Nat.zero_le _⟩ hO dX11_first_91 (fun aq μ4 hq4 => ?_)
                  obtain ⟨rfl, n4q, h4q, hq5⟩ := hq4
                  have hs4 : zScr μ μ4 := by rw [hq5]; exact (hs3.row (by decide) (by decide)).row (by decide) (by decide)
                  have hK4 : ∀ j, j < 64 → μ4 140 j = zt0 D j := fun j hj => by rw [hq5, zrow_ne (by decide), zrow_ne (by decide)]; exact hK3 j hj
                  refine zY.if_ne (tgt := 103) zr_b hO dX11_first_94 (by decide) (fun c94 => ?_) (fun c94 => ?_)
                  ·
                    replace c94 := zb1.mp c94
                    have hpp : (zmy D zno set s = true ∧ 0 < zt0 D (set ||| 2 ^ s)) := ⟨by unfold zmy; rw [hb1, hb2]; simp; exact Or.inr c94, hb3⟩
                    have hsn : s = nq := by
                      rcases Nat.lt_or_ge s nq with h | h
                      · exact absurd hpp (hnx.2.2.2 s h)
                      · omega
                    subst hsn
                    refine zY.iload_n hO dX11_first_103 rfl ?_
                    refine zY.iconst hO dX11_first_104 ?_
                    refine zY.iload hO dX11_first_105 rfl ?_
                    refine zY.ishl (c := ((2 ^ s : Nat) : Int)) (zb_shl s hs6) hO dX11_first_107 ?_
                    refine zY.ior (c := ((set ||| 2 ^ s : Nat) : Int)) (zb_or _ h64 _ (zb_two s hs6)) hO dX11_first_108 ?_
                    refine zY.istore3 (zc1_I _) hO dX11_first_109 ?_
                    refine zY.iinc5 _ rfl (zc1_I _) hO dX11_first_110 ?_
                    refine zY.goto (tgt := 45) hO dX11_first_113 (by decide) ?_
                    refine ih45 (by omega) (set ||| 2 ^ s) (s : Int) μ4 hs4 hK4 (zb_lt64 set h64 s hs6) (zb_ors set h64 _ hth hsb s hs6 hnb.2) hnx.2.2.1 (by rw [zb_pc1 set h64 s hs6 hnb.1, hpk]; omega) (fun hk => ?_) (fun hk => ?_)
                    · have hA2 := hA (by omega)
                      rw [show 6 - k = (6 - (k + 1)) + 1 by omega] at hA2
                      simp only [zlp] at hA2
                      rw [hnq, if_neg (by omega), Int.toNat_natCast] at hA2
                      exact hA2
                    · have hA2 := hA (by omega)
                      rw [show 6 - k = (6 - (k + 1)) + 1 by omega] at hA2
                      simp only [zlp] at hA2
                      rw [hnq, if_pos (Or.inr (by omega))] at hA2
                      exact hA2
                  ·
                    replace c94 := zb0.mp c94
                    have hnp : ¬ (zmy D zno set s = true ∧ 0 < zt0 D (set ||| 2 ^ s)) := fun z => by
                      have h1 := z.1
                      unfold zmy at h1
                      rw [hb1, hb2] at h1
                      simp at h1
                      rcases h1 with h1 | h1
                      · exact absurd h1 (by unfold zno; decide)
                      · exact c94 h1
                    refine zY.iinc4 _ rfl (zc1_I _) hO dX11_first_97 ?_
                    refine zY.goto (tgt := 54) hO dX11_first_100 (by decide) ?_
                    exact ih54 (hgo hnp) μ4 hs4 hK4
          exact L54 0 (by omega) μ2 hs2 hK2
      exact L45 0 (by omega) 0 0 μ1 hs1 hK (by omega) (Nat.zero_and _) (by have hnn0 : 0 ≤ zt0 D 0 := zwt_nn 64 0; omega) (by decide) (fun _ => rfl) (fun z => by omega)
    ·
      replace c31 := zb0.mp c31
      refine zY.bipush hO dX11_first_34 (by decide) ?_
      exact zY.iret rfl ⟨_, rfl, ⟨(zA_first_no (Or.inr c31)).symm, hs1⟩⟩ hR hO dX11_first_36

theorem zb_sbt : ∀ a : Nat, a < 64 → ∀ s : Nat, s < 6 → (a.testBit s = true → a &&& 2 ^ s = 2 ^ s) ∧ (a.testBit s = false → a &&& 2 ^ s = 0) ∧ a - (a &&& 2 ^ s) < 64 ∧ a - (a &&& 2 ^ s) ≤ a ∧ (a - (a &&& 2 ^ s) = a ↔ a.testBit s = false) := by decide +kernel
theorem zb_sba : ∀ a : Nat, a < 64 → ∀ b : Nat, b < 64 → ∀ s : Nat, s < 6 → a.testBit s = true → (((a - 2 ^ s) &&& b = a - 2 ^ s ∧ b.testBit s = true) ↔ a &&& b = a) := by decide +kernel
/-- what can be printed is there -/
theorem zrch_sub {D : zBk} : ∀ j : Nat, j < 64 → zrch D j = true → j &&& zthD D = j := by
  intro j
  refine zup (P := fun j => j < 64 → zrch D j = true → j &&& zthD D = j) (fun j ih => ?_) j
  intro h64 h
  rw [zrch_eq, Bool.or_eq_true, decide_eq_true_eq] at h
  rcases h with h | h
  · subst h; exact Nat.zero_and _
  · unfold zrq at h
    obtain ⟨s, hs, hp⟩ := (zany_iff 6).mp h
    rw [Bool.and_eq_true, Bool.and_eq_true, Bool.and_eq_true, decide_eq_true_eq] at hp
    obtain ⟨h1, h2, h3, h4⟩ := hp
    exact (zb_sba j h64 _ (zthD_64 D) s hs h1).mp ⟨ih _ h2 (by omega) h3, (zmy_not h4).2⟩
/-- the model's own question -/
def zmpq (D : zBk) (j s : Nat) : Bool := decide (j &&& zthD D = j) && (j.testBit s && (zrch D (j - 2 ^ s) && decide (zlk (znd D s 0) (zaf D (j - 2 ^ s) 6) = 0)))
theorem zrch_mp {D : zBk} {j : Nat} (h64 : j < 64) (h0 : 0 < j) : zrch D j = zany (zmpq D j) 6 := by
  rw [Bool.eq_iff_iff]
  constructor
  · intro h
    have hsb := zrch_sub j h64 h
    rw [zrch_eq, Bool.or_eq_true, decide_eq_true_eq] at h
    rcases h with h | h
    · omega
    · unfold zrq at h
      obtain ⟨s, hs, hp⟩ := (zany_iff 6).mp h
      rw [Bool.and_eq_true, Bool.and_eq_true, Bool.and_eq_true, decide_eq_true_eq] at hp
      obtain ⟨h1, h2, h3, h4⟩ := hp
      refine (zany_iff 6).mpr ⟨s, hs, ?_⟩
      unfold zmpq
      rw [decide_eq_true hsb, h1, h3]
      unfold zmy at h4
      simp only [Bool.and_eq_true, Bool.or_eq_true, decide_eq_true_eq] at h4
      rcases h4.2 with h5 | h5
      · exact absurd h5 (by unfold zno; decide)
      · rw [decide_eq_true (show zlk (znd D s 0) (zaf D (j - 2 ^ s) 6) = 0 from h5)]; rfl
  · intro h
    obtain ⟨s, hs, hp⟩ := (zany_iff 6).mp h
    unfold zmpq at hp
    rw [Bool.and_eq_true, Bool.and_eq_true, Bool.and_eq_true, decide_eq_true_eq, decide_eq_true_eq] at hp
    obtain ⟨h1, h2, h3, h4⟩ := hp
    rw [zrch_eq, Bool.or_eq_true]
    right
    unfold zrq
    have hm := zb_min j h64 s hs h2
    have hb := ((zb_sba j h64 _ (zthD_64 D) s hs h2).mpr h1).2
    refine (zany_iff 6).mpr ⟨s, hs, ?_⟩
    rw [h2, decide_eq_true hm.1, h3]
    show zmy D zno (j - 2 ^ s) s = true
    unfold zmy
    rw [hb, hm.2.1, decide_eq_true (show zlk (znd D s 0) (zaf D (j - 2 ^ s) 6) = zno s from h4)]
    simp
theorem zbm_1 {D : zBk} : zbm D 1 = 0 := by simp [zbm]

set_option maxRecDepth 100000 in
set_option maxHeartbeats 4000000 in
theorem ct_X11_most {μ : zMem} {D : zBk} {K0 K1 : Option zBk} (hM : zMd D K0 K1 μ) {x : Int} (hx : zr x) : Ci kX11_most 8 150 zSX [zP 127, zI x] μ (fun a μ' => a = zA_most D x ∧ zScr μ μ') := by
  refine Ct.of [some (zP 127), some (zI x), none, none, none, none, none, none] rfl (Nat.le_of_ble_eq_true rfl) (by decide +kernel) (fun Γ ad hO hR => ?_)
  refine zY.iload_n hO dX11_most_0 rfl ?_
  refine zY.i2l hx hO dX11_most_1 ?_
  refine zY.lconst0 hO dX11_most_2 ?_
  refine zY.lconst1 hO dX11_most_3 ?_
  refine zY.callS3iD (ct_X11_in (a := x) (b := 0) (c := 1) ⟨by omega, by omega⟩ ⟨by omega, by omega⟩ ⟨by omega, by omega⟩) (by decide) zcal_X11_in zml_X11_83 (Nat.le_of_ble_eq_true rfl) rfl ⟨Nat.zero_le _, Nat.zero_le _⟩ hO dX11_most_4 ?_
  refine zY.if_ne (tgt := 13) zr_b hO dX11_most_7 (by decide) (fun c7 => ?_) (fun c7 => ?_)
  ·
    replace c7 := zb1.mp c7
    refine zY.aload_n hO dX11_most_13 rfl ?_
    refine zY.callV0iD (ct_X11_there hM) (by decide) zcal_X11_there zml_X11_96 (by decide : 127 < 150) rfl rfl (Nat.le_of_ble_eq_true rfl) rfl ⟨Nat.zero_le _, Nat.zero_le _⟩ hO dX11_most_14 ?_
    have hth := zthD_64 D
    refine zY.istore2 (zc1_I _) hO dX11_most_17 ?_
    refine zY.iconst hO dX11_most_18 ?_
    refine zY.istore3 (zc1_I _) hO dX11_most_19 ?_
    refine zY.aload_n hO dX11_most_20 rfl ?_
    refine zY.getR zfl_X11_43 (by decide : 127 < 150) rfl rfl hO dX11_most_21 ?_
    refine zY.iconst hO dX11_most_24 ?_
    refine zY.iconst hO dX11_most_25 ?_
    refine zY.iast (0) rfl (by omega) (by decide) (by decide : 139 < 150) rfl hO dX11_most_26 ?_
    refine zY.iconst hO dX11_most_27 ?_
    refine zY.istore4 (zc1_I _) hO dX11_most_28 ?_
    have L30 : ∀ i : Nat, i ≤ 64 → 1 ≤ i → ∀ (bq : Nat) (μ1 : zMem), bq = zbm D i → zScr μ μ1 → (∀ j, j < i → μ1 139 j = if zrch D j = true then 1 else 0) → zY Γ (150, zSX, ad, 0, 0) 30 [some (zP 127), some (zI x), some (zI (zthD D : Int)), some (zI (bq : Int)), some (zI (i : Int)), none, none, none] [] μ1 := by
      refine zdown (64) (fun i hi_i ih30 => ?_)
      intro hi1 bq μ1 hbq hs1 hT1
      have hbl := zbm_lt (D := D) i (by omega)
      refine zY.iload hO dX11_most_30 rfl ?_
      refine zY.bipush hO dX11_most_32 (by decide) ?_
      refine zY.icmp_ge (tgt := 174) ⟨by omega, by omega⟩ ⟨by omega, by omega⟩ hO dX11_most_34 (by decide) (fun c34 => ?_) (fun c34 => ?_)
      ·
        have hi6 : i = 64 := by omega
        subst hi6
        refine zY.iload_n hO dX11_most_174 rfl ?_
        refine zY.if_ne (tgt := 185) hx hO dX11_most_175 (by decide) (fun c175 => ?_) (fun c175 => ?_)
        ·
          refine zY.iload_n hO dX11_most_185 rfl ?_
          exact zY.iret rfl ⟨_, rfl, ⟨by unfold zA_most; rw [if_pos c7, if_neg c175, hbq], hs1⟩⟩ hR hO dX11_most_186
        ·
          refine zY.iload_n hO dX11_most_178 rfl ?_
          refine zY.callS1iD (ct_X11_ones (m := bq) (by omega)) (by decide) zcal_X11_ones zml_X11_196 (Nat.le_of_ble_eq_true rfl) rfl ⟨Nat.zero_le _, Nat.zero_le _⟩ hO dX11_most_179 ?_
          refine zY.goto (tgt := 186) hO dX11_most_182 (by decide) ?_
          exact zY.iret rfl ⟨_, rfl, ⟨by unfold zA_most; rw [if_pos c7, if_pos c175, hbq], hs1⟩⟩ hR hO dX11_most_186
      ·
        refine zY.aload_n hO dX11_most_37 rfl ?_
        refine zY.getR zfl_X11_43 (by decide : 127 < 150) rfl rfl hO dX11_most_38 ?_
        refine zY.iload hO dX11_most_41 rfl ?_
        refine zY.iconst hO dX11_most_43 ?_
        refine zY.iast (i) rfl (by omega) (by decide) (by decide : 139 < 150) rfl hO dX11_most_44 ?_
        refine zY.iconst hO dX11_most_45 ?_
        refine zY.istore5 (zc1_I _) hO dX11_most_46 ?_
        have L48 : ∀ s : Nat, s ≤ 6 → ∀ μ2 : zMem, zScr μ μ2 → (∀ j, j < i → μ2 139 j = if zrch D j = true then 1 else 0) → μ2 139 i = (if zany (zmpq D i) s = true then 1 else 0) → zY Γ (150, zSX, ad, 0, 0) 48 [some (zP 127), some (zI x), some (zI (zthD D : Int)), some (zI (bq : Int)), some (zI (i : Int)), some (zI (s : Int)), none, none] [] μ2 := by
          refine zdown (6) (fun s hi_s ih48 => ?_)
          intro μ2 hs2 hT2 hW2
          refine zY.iload hO dX11_most_48 rfl ?_
          refine zY.bipush hO dX11_most_50 (by decide) ?_
          refine zY.icmp_ge (tgt := 139) ⟨by omega, by omega⟩ ⟨by omega, by omega⟩ hO dX11_most_52 (by decide) (fun c52 => ?_) (fun c52 => ?_)
          ·
            have hs66 : s = 6 := by omega
            subst hs66
            have hi64 : i < 64 := by omega
            rw [← zrch_mp hi64 (by omega)] at hW2
            refine zY.aload_n hO dX11_most_139 rfl ?_
            refine zY.getR zfl_X11_43 (by decide : 127 < 150) rfl rfl hO dX11_most_140 ?_
            refine zY.iload hO dX11_most_143 rfl ?_
            refine zY.iald (i) rfl (by omega) (by decide) (by decide : 139 < 150) rfl hO dX11_most_145 ?_
            refine zY.as hW2 ?_
            refine zY.if_le (tgt := 166) zr_b hO dX11_most_146 (by decide) (fun c146 => ?_) (fun c146 => ?_)
            ·
              have hnr : ¬ zrch D i = true := fun z => by rw [if_pos z] at c146; omega
              refine zY.iload_n hO dX11_most_166 rfl ?_
              refine zY.istore3 (zc1_I _) hO dX11_most_167 ?_
              refine zY.iinc4 _ rfl (zc1_I _) hO dX11_most_168 ?_
              refine zY.goto (tgt := 30) hO dX11_most_171 (by decide) ?_
              refine zY.none5 ?_
              exact ih30 (by omega) (by omega) bq μ2 (by simp only [zbm]; rw [if_neg (fun z => hnr z.1)]; exact hbq) hs2 (fun j hj => by
                by_cases e : j = i
                · subst e; exact hW2
                · exact hT2 j (by omega))
            ·
              have hrr : zrch D i = true := by
                by_cases h1 : zrch D i = true
                · exact h1
                · rw [if_neg h1] at c146; omega
              have hpb1 := zpc_b i
              have hpb2 := zpc_b bq
              refine zY.iload hO dX11_most_149 rfl ?_
              refine zY.callS1iD (ct_X11_ones hi64) (by decide) zcal_X11_ones zml_X11_196 (Nat.le_of_ble_eq_true rfl) rfl ⟨Nat.zero_le _, Nat.zero_le _⟩ hO dX11_most_151 ?_
              refine zY.iload_n hO dX11_most_154 rfl ?_
              refine zY.callS1iD (ct_X11_ones (m := bq) (by omega)) (by decide) zcal_X11_ones zml_X11_196 (Nat.le_of_ble_eq_true rfl) rfl ⟨Nat.zero_le _, Nat.zero_le _⟩ hO dX11_most_155 ?_
              refine zY.icmp_le (tgt := 166) ⟨by omega, by omega⟩ ⟨by omega, by omega⟩ hO dX11_most_158 (by decide) (fun c158 => ?_) (fun c158 => ?_)
              ·
                refine zY.iload_n hO dX11_most_166 rfl ?_
                refine zY.istore3 (zc1_I _) hO dX11_most_167 ?_
                refine zY.iinc4 _ rfl (zc1_I _) hO dX11_most_168 ?_
                refine zY.goto (tgt := 30) hO dX11_most_171 (by decide) ?_
                refine zY.none5 ?_
                exact ih30 (by omega) (by omega) bq μ2 (by simp only [zbm]; rw [if_neg (fun z => by have h1 := z.2; rw [← hbq] at h1; omega)]; exact hbq) hs2 (fun j hj => by
                  by_cases e : j = i
                  · subst e; exact hW2
                  · exact hT2 j (by omega))
              ·
                refine zY.iload hO dX11_most_161 rfl ?_
                refine zY.goto (tgt := 167) hO dX11_most_163 (by decide) ?_
                refine zY.istore3 (zc1_I _) hO dX11_most_167 ?_
                refine zY.iinc4 _ rfl (zc1_I _) hO dX11_most_168 ?_
                refine zY.goto (tgt := 30) hO dX11_most_171 (by decide) ?_
                refine zY.none5 ?_
                exact ih30 (by omega) (by omega) i μ2 (by simp only [zbm]; rw [if_pos ⟨hrr, by rw [← hbq]; omega⟩]) hs2 (fun j hj => by
                  by_cases e : j = i
                  · subst e; exact hW2
                  · exact hT2 j (by omega))
          ·
            have hs6 : s < 6 := by omega
            have hi64 : i < 64 := by omega
            have hsb := zb_sbt i hi64 s hs6
            have hM2 := hs2.md hM
            refine zY.iload hO dX11_most_55 rfl ?_
            refine zY.iconst hO dX11_most_57 ?_
            refine zY.iload hO dX11_most_58 rfl ?_
            refine zY.ishl (c := ((2 ^ s : Nat) : Int)) (zb_shl s hs6) hO dX11_most_60 ?_
            refine zY.iconst hO dX11_most_61 ?_
            refine zY.ixor (c := (-1 - ((2 ^ s : Nat) : Int))) (zb_not _ (zb_two s hs6)) hO dX11_most_62 ?_
            refine zY.mem rfl ?_
            refine zY.iand (c := ((i - (i &&& 2 ^ s) : Nat) : Int)) (zb_andn _ hi64 _ (zb_two s hs6)) hO dX11_most_63 ?_
            refine zY.istore6 (zc1_I _) hO dX11_most_64 ?_
            refine zY.iload hO dX11_most_66 rfl ?_
            refine zY.iload_n hO dX11_most_68 rfl ?_
            refine zY.iconst hO dX11_most_69 ?_
            refine zY.ixor (c := (-1 - (zthD D : Int))) (zb_not _ hth) hO dX11_most_70 ?_
            refine zY.iand (c := ((i - (i &&& zthD D) : Nat) : Int)) (zb_andn _ hi64 _ hth) hO dX11_most_71 ?_
            have L108 : ∀ (m1 ah : Int) (μ3 : zMem), ((m1 = 1 ∧ zmpq D i s = true) ∨ (m1 = 0 ∧ zmpq D i s = false)) → zScr μ μ3 → μ3 139 = μ2 139 → zY Γ (150, zSX, ad, 0, 0) 108 [some (zP 127), some (zI x), some (zI (zthD D : Int)), some (zI (bq : Int)), some (zI (i : Int)), some (zI (s : Int)), some (zI ah), none] [zI m1] μ3 := by
              intro m1 ah μ3 hm3 hs3 h139
              refine zY.istore7 (zc1_I _) hO dX11_most_108 ?_
              refine zY.aload_n hO dX11_most_110 rfl ?_
              refine zY.getR zfl_X11_43 (by decide : 127 < 150) rfl rfl hO dX11_most_111 ?_
              refine zY.iload hO dX11_most_114 rfl ?_
              refine zY.iload hO dX11_most_116 rfl ?_
              refine zY.if_eq (tgt := 125) ⟨by omega, by omega⟩ hO dX11_most_118 (by decide) (fun c118 => ?_) (fun c118 => ?_)
              ·
                refine zY.aload_n hO dX11_most_125 rfl ?_
                refine zY.getR zfl_X11_43 (by decide : 127 < 150) rfl rfl hO dX11_most_126 ?_
                refine zY.iload hO dX11_most_129 rfl ?_
                refine zY.iald (i) rfl (by omega) (by decide) (by decide : 139 < 150) rfl hO dX11_most_131 ?_
                refine zY.iast (i) rfl (by omega) (by decide) (by decide : 139 < 150) rfl hO dX11_most_132 ?_
                refine zY.iinc5 _ rfl (zc1_I _) hO dX11_most_133 ?_
                refine zY.goto (tgt := 48) hO dX11_most_136 (by decide) ?_
                refine zY.none6 ?_
                refine zY.none7 ?_
                exact ih48 (by omega) _ (hs3.wr (by decide) (by decide)) (fun j hj => by
                  show (if 139 = 139 then (if j = i then _ else μ3 139 j) else μ3 139 j) = _
                  rw [if_pos rfl, if_neg (by omega), h139]; exact hT2 j hj) (by
                  show (if 139 = 139 then (if i = i then _ else μ3 139 i) else μ3 139 i) = _
                  rw [if_pos rfl, if_pos rfl]
                  rw [show zany (zmpq D i) (s + 1) = zany (zmpq D i) s by (show (zany (zmpq D i) s || zmpq D i s) = _; rw [show zmpq D i s = false by (rcases hm3 with h | h; (· omega); (· exact h.2)), Bool.or_false]), h139]; exact hW2)
              ·
                refine zY.iconst hO dX11_most_121 ?_
                refine zY.goto (tgt := 132) hO dX11_most_122 (by decide) ?_
                refine zY.iast (i) rfl (by omega) (by decide) (by decide : 139 < 150) rfl hO dX11_most_132 ?_
                refine zY.iinc5 _ rfl (zc1_I _) hO dX11_most_133 ?_
                refine zY.goto (tgt := 48) hO dX11_most_136 (by decide) ?_
                refine zY.none6 ?_
                refine zY.none7 ?_
                exact ih48 (by omega) _ (hs3.wr (by decide) (by decide)) (fun j hj => by
                  show (if 139 = 139 then (if j = i then _ else μ3 139 j) else μ3 139 j) = _
                  rw [if_pos rfl, if_neg (by omega), h139]; exact hT2 j hj) (by
                  show (if 139 = 139 then (if i = i then _ else μ3 139 i) else μ3 139 i) = _
                  rw [if_pos rfl, if_pos rfl]
                  rw [if_pos (show zany (zmpq D i) (s + 1) = true by (show (zany (zmpq D i) s || zmpq D i s) = true); rw [show zmpq D i s = true by (rcases hm3 with h | h; (· exact h.2); (· omega)), Bool.or_true])])
            refine zY.if_ne (tgt := 107) ⟨by omega, by omega⟩ hO dX11_most_72 (by decide) (fun c72 => ?_) (fun c72 => ?_)
            ·
              have hnp : zmpq D i s = false := by unfold zmpq; rw [decide_eq_false (fun z => by have := (zb_sub0 _ hi64 _ hth).mpr z; omega)]; rfl
              refine zY.iconst hO dX11_most_107 ?_
              exact L108 0 _ μ2 (Or.inr ⟨rfl, hnp⟩) hs2 rfl
            ·
              have hin0 : i &&& zthD D = i := (zb_sub0 _ hi64 _ hth).mp (by omega)
              refine zY.iload hO dX11_most_75 rfl ?_
              refine zY.iload hO dX11_most_77 rfl ?_
              refine zY.icmp_eq (tgt := 107) ⟨by omega, by omega⟩ ⟨by omega, by omega⟩ hO dX11_most_79 (by decide) (fun c79 => ?_) (fun c79 => ?_)
              ·
                have hnp : zmpq D i s = false := by unfold zmpq; rw [hsb.2.2.2.2.mp (by omega)]; simp
                refine zY.iconst hO dX11_most_107 ?_
                exact L108 0 _ μ2 (Or.inr ⟨rfl, hnp⟩) hs2 rfl
              ·
                have hbt : i.testBit s = true := by
                  cases hx2 : i.testBit s with
                  | true => rfl
                  | false => exact absurd (hsb.2.2.2.2.mpr hx2) (by omega)
                have hm1 := hsb.1 hbt
                have hmn := zb_min i hi64 s hs6 hbt
                refine zY.aload_n hO dX11_most_82 rfl ?_
                refine zY.getR zfl_X11_43 (by decide : 127 < 150) rfl rfl hO dX11_most_83 ?_
                refine zY.iload hO dX11_most_86 rfl ?_
                refine zY.iald (i - (i &&& 2 ^ s)) rfl (by omega) (by decide) (by decide : 139 < 150) rfl hO dX11_most_88 ?_
                refine zY.as (b := if zrch D (i - 2 ^ s) = true then 1 else 0) (by rw [hm1]; exact hT2 _ hmn.1) ?_
                refine zY.if_le (tgt := 107) zr_b hO dX11_most_89 (by decide) (fun c89 => ?_) (fun c89 => ?_)
                ·
                  have hnp : zmpq D i s = false := by
                    unfold zmpq
                    by_cases h1 : zrch D (i - 2 ^ s) = true
                    · rw [if_pos h1] at c89; omega
                    · rw [eq_false_of_ne_true h1]; simp
                  refine zY.iconst hO dX11_most_107 ?_
                  exact L108 0 _ μ2 (Or.inr ⟨rfl, hnp⟩) hs2 rfl
                ·
                  have hrt : zrch D (i - 2 ^ s) = true := by
                    by_cases h1 : zrch D (i - 2 ^ s) = true
                    · exact h1
                    · rw [if_neg h1] at c89; omega
                  have hsub : zsub D (i - 2 ^ s) := zsub_of (by omega) ((zb_sba i hi64 _ hth s hs6 hbt).mpr hin0).1
                  refine zY.aload_n hO dX11_most_92 rfl ?_
                  refine zY.iload hO dX11_most_93 rfl ?_
                  refine zY.iload hO dX11_most_95 rfl ?_
                  rw [hm1]
                  refine zY.callV2i (ct_X11_canBehind hM2 (set := i - 2 ^ s) (by omega) hsub (s := s) hs6) (by decide) zcal_X11_canBehind zml_X11_189 (by decide : 127 < 150) rfl rfl (Nat.le_of_ble_eq_true rfl) rfl ⟨Nat.zero_le _, Nat.zero_le _⟩ hO dX11_most_97 (fun aq μ4 hq4 => ?_)
                  obtain ⟨rfl, n4q, h4q, hq5⟩ := hq4
                  have hs4 : zScr μ μ4 := by rw [hq5]; exact (hs2.row (by decide) (by decide)).row (by decide) (by decide)
                  have h139 : μ4 139 = μ2 139 := by rw [hq5, zrow_ne (by decide), zrow_ne (by decide)]
                  refine zY.if_eq (tgt := 107) zr_b hO dX11_most_100 (by decide) (fun c100 => ?_) (fun c100 => ?_)
                  ·
                    replace c100 := zb0.mp c100
                    have hnp : zmpq D i s = false := by unfold zmpq; rw [decide_eq_false c100]; simp
                    refine zY.iconst hO dX11_most_107 ?_
                    exact L108 0 _ μ4 (Or.inr ⟨rfl, hnp⟩) hs4 h139
                  ·
                    replace c100 := zb1.mp c100
                    have hpp : zmpq D i s = true := by unfold zmpq; rw [decide_eq_true hin0, hbt, hrt, decide_eq_true c100]; rfl
                    refine zY.iconst hO dX11_most_103 ?_
                    refine zY.goto (tgt := 108) hO dX11_most_104 (by decide) ?_
                    exact L108 1 _ μ4 (Or.inl ⟨rfl, hpp⟩) hs4 h139
        exact L48 0 (by omega) _ (hs1.wr (by decide) (by decide)) (fun j hj => by show (if 139 = 139 then (if j = i then 0 else μ1 139 j) else μ1 139 j) = _; rw [if_pos rfl, if_neg (by omega)]; exact hT1 j hj) (by simp [zwr, zany])
    exact L30 1 (by omega) (by omega) 0 _ zbm_1.symm (zScr.rfl'.wr (by decide) (by decide)) (fun j hj => by rw [show j = 0 by omega, if_pos (by rw [zrch_eq]; rfl)]; simp [zwr])
  ·
    replace c7 := zb0.mp c7
    refine zY.bipush hO dX11_most_10 (by decide) ?_
    exact zY.iret rfl ⟨_, rfl, ⟨by unfold zA_most; rw [if_neg c7], zScr.rfl'⟩⟩ hR hO dX11_most_12
