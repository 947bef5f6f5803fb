/-! the model: known -/
theorem zcm_s {D : zBk} {w o so i : Nat} : zcm D w o so (i + 1) = true ↔ zcm D w o so i = true ∧ (D 0 (5 * w + i) = D 0 (5 * o + i) ∨ (so.testBit (D 0 (5 * w + i)).toNat = true ∧ so.testBit (D 0 (5 * o + i)).toNat = true)) := by
  simp only [zcm, Bool.and_eq_true, Bool.or_eq_true, decide_eq_true_eq]
theorem zsm_s {D : zBk} {w o i : Nat} : zsm D w o (i + 1) = true ↔ zsm D w o i = true ∧ D 0 (5 * w + i) = D 0 (5 * o + i) := by
  simp only [zsm, Bool.and_eq_true, decide_eq_true_eq]
theorem zcmo_mono {D : zBk} {w o so i : Nat} : ∀ m, zcm D w o so (i + m) = true → zcm D w o so i = true
  | 0, h => h
  | m + 1, h => zcmo_mono m (zcm_s.mp h).1
theorem zmt_iff {D : zBk} {w o so : Nat} : zmeant D w o so = true ↔ (D 1 w = D 1 o ∧ zcm D w o so (D 1 w).toNat = true) ∧ ¬ zsm D w o (D 1 w).toNat = true := by
  unfold zmeant
  simp only [Bool.and_eq_true, decide_eq_true_eq, Bool.not_eq_true', Bool.not_eq_true]
  constructor
  · rintro ⟨h1, h2, h3⟩; exact ⟨⟨h1, h2⟩, h3⟩
  · rintro ⟨⟨h1, h2⟩, h3⟩; exact ⟨h1, h2, h3⟩
theorem zknown_s {D : zBk} {w so i : Nat} : zknown D w so (i + 1) = true ↔ zknown D w so i = true ∧ ¬ zmeant D w i so = true := by
  simp only [zknown, Bool.and_eq_true, Bool.not_eq_true', Bool.not_eq_true]
theorem zi1 {p : Prop} [Decidable p] {c : Int} (h : c = if p then 1 else 0) : (c = 0 → ¬ p) ∧ (¬ c = 0 → p) := by
  by_cases hp : p
  · rw [if_pos hp] at h; exact ⟨fun z => by omega, fun _ => hp⟩
  · rw [if_neg hp] at h; exact ⟨fun _ => hp, fun z => by omega⟩
theorem zi1r {p : Prop} [Decidable p] {c : Int} (h : c = if p then 1 else 0) : zr c := by rw [h]; exact zr_b
theorem zi1b {p : Prop} [Decidable p] {c : Int} (h : c = if p then 1 else 0) : c = 0 ∨ c = 1 := by rw [h]; exact zb01

set_option maxRecDepth 100000 in
set_option maxHeartbeats 4000000 in
theorem ct_X11_couldBe {μ : zMem} {D : zBk} {K0 K1 : Option zBk} (hM : zMd D K0 K1 μ) {w o so : Nat} (hw : w < 10) (ho : o < 10) (hso : so < 64) : Ci kX11_couldBe 1 150 zSX [zP 127, zI (w : Int), zI (o : Int), zI (so : Int)] μ (fun r μ' => r = (if zmeant D w o so = true then 1 else 0) ∧ μ' = μ) := by
  have hwd := hM.1.1 w hw
  have hod := hM.1.1 o ho
  have hlw : μ 129 w = D 1 w := hM.2.1.2.1 1 (by omega) (by omega) w hw
  have hlo : μ 129 o = D 1 o := hM.2.1.2.1 1 (by omega) (by omega) o ho
  refine Ct.of [some (zP 127), some (zI (w : Int)), some (zI (o : Int)), some (zI (so : Int)), none, none, none, none, none] rfl (Nat.le_of_ble_eq_true rfl) (by decide +kernel) (fun Γ ad hO hR => ?_)
  have L28 : ∀ i : Nat, i ≤ (D 1 w).toNat → ∀ s1 c1 : Int, s1 = (if (zsm D w o i = true) then 1 else 0) → c1 = (if (D 1 w = D 1 o ∧ zcm D w o so i = true) then 1 else 0) → zY Γ (150, zSX, ad, 0, 0) 28 [some (zP 127), some (zI (w : Int)), some (zI (o : Int)), some (zI (so : Int)), some (zI s1), some (zI c1), some (zI (i : Int)), none, none] [] μ := by
    refine zdown ((D 1 w).toNat) (fun i hi_i ih28 => ?_)
    intro s1 c1 hs1 hc1
    refine zY.iload hO dX11_couldBe_28 rfl ?_
    refine zY.aload_n hO dX11_couldBe_30 rfl ?_
    refine zY.getR zfl_X11_13 (by decide : 127 < 150) rfl rfl hO dX11_couldBe_31 ?_
    refine zY.iload_n hO dX11_couldBe_34 rfl ?_
    refine zY.iald (w) rfl (by omega) (by decide) (by decide : 129 < 150) rfl hO dX11_couldBe_35 ?_
    refine zY.as hlw ?_
    refine zY.icmp_ge (tgt := 137) ⟨by omega, by omega⟩ ⟨by omega, by omega⟩ hO dX11_couldBe_36 (by decide) (fun c36 => ?_) (fun c36 => ?_)
    ·
      have hiN : i = (D 1 w).toNat := by omega
      refine zY.iload hO dX11_couldBe_137 rfl ?_
      refine zY.if_eq (tgt := 151) (zi1r hc1) hO dX11_couldBe_139 (by decide) (fun c139 => ?_) (fun c139 => ?_)
      ·
        have hp2 := (zi1 hc1).1 c139
        refine zY.iconst hO dX11_couldBe_151 ?_
        exact zY.zret (by omega) rfl ⟨_, rfl, ⟨by rw [if_neg (fun z => by
                  have h3 := (zmt_iff.mp z).1
                  rw [show (D 1 w).toNat = i + ((D 1 w).toNat - i) by omega] at h3
                  exact hp2 ⟨h3.1, zcmo_mono _ h3.2⟩)], rfl⟩⟩ hR hO dX11_couldBe_152
      ·
        have hp2 := (zi1 hc1).2 c139
        refine zY.iload hO dX11_couldBe_142 rfl ?_
        refine zY.if_ne (tgt := 151) (zi1r hs1) hO dX11_couldBe_144 (by decide) (fun c144 => ?_) (fun c144 => ?_)
        ·
          refine zY.iconst hO dX11_couldBe_151 ?_
          exact zY.zret (by omega) rfl ⟨_, rfl, ⟨by rw [if_neg (fun z => (zmt_iff.mp z).2 (hiN ▸ (zi1 hs1).2 c144))], rfl⟩⟩ hR hO dX11_couldBe_152
        ·
          refine zY.iconst hO dX11_couldBe_147 ?_
          refine zY.goto (tgt := 152) hO dX11_couldBe_148 (by decide) ?_
          exact zY.zret (by omega) rfl ⟨_, rfl, ⟨by rw [if_pos (zmt_iff.mpr ⟨hiN ▸ hp2, hiN ▸ (zi1 hs1).1 (by omega)⟩)], rfl⟩⟩ hR hO dX11_couldBe_152
    ·
      refine zY.iload hO dX11_couldBe_39 rfl ?_
      refine zY.if_eq (tgt := 137) (zi1r hc1) hO dX11_couldBe_41 (by decide) (fun c41 => ?_) (fun c41 => ?_)
      ·
        have hp := (zi1 hc1).1 c41
        refine zY.iload hO dX11_couldBe_137 rfl ?_
        refine zY.if_eq (tgt := 151) (zi1r hc1) hO dX11_couldBe_139 (by decide) (fun c139 => ?_) (fun c139 => ?_)
        ·
          have hp2 := (zi1 hc1).1 c139
          refine zY.iconst hO dX11_couldBe_151 ?_
          exact zY.zret (by omega) rfl ⟨_, rfl, ⟨by rw [if_neg (fun z => by
                    have h3 := (zmt_iff.mp z).1
                    rw [show (D 1 w).toNat = i + ((D 1 w).toNat - i) by omega] at h3
                    exact hp2 ⟨h3.1, zcmo_mono _ h3.2⟩)], rfl⟩⟩ hR hO dX11_couldBe_152
        ·
          have hp2 := (zi1 hc1).2 c139
          refine zY.iload hO dX11_couldBe_142 rfl ?_
          refine zY.if_ne (tgt := 151) (zi1r hs1) hO dX11_couldBe_144 (by decide) (fun c144 => ?_) (fun c144 => ?_)
          ·
            refine zY.iconst hO dX11_couldBe_151 ?_
            exact zY.zret (by omega) rfl ⟨_, rfl, ⟨by rw [if_neg (fun z => hp hp2)], rfl⟩⟩ hR hO dX11_couldBe_152
          ·
            refine zY.iconst hO dX11_couldBe_147 ?_
            refine zY.goto (tgt := 152) hO dX11_couldBe_148 (by decide) ?_
            exact zY.zret (by omega) rfl ⟨_, rfl, ⟨by exact absurd hp2 hp, rfl⟩⟩ hR hO dX11_couldBe_152
      ·
        have hp := (zi1 hc1).2 c41
        have hba := hwd.2.2.2.2.2 i (by omega)
        have hbb := hod.2.2.2.2.2 i (by omega)
        obtain ⟨aq, haq⟩ : ∃ aq : Nat, D 0 (5 * w + i) = (aq : Int) := ⟨(D 0 (5 * w + i)).toNat, by omega⟩
        obtain ⟨bq, hbq⟩ : ∃ bq : Nat, D 0 (5 * o + i) = (bq : Int) := ⟨(D 0 (5 * o + i)).toNat, by omega⟩
        have haN : (D 0 (5 * w + i)).toNat = aq := by omega
        have hbN : (D 0 (5 * o + i)).toNat = bq := by omega
        have ha6 : aq < 6 := by omega
        have hb6 : bq < 6 := by omega
        have hcs := zcm_s (D := D) (w := w) (o := o) (so := so) (i := i)
        have hss := zsm_s (D := D) (w := w) (o := o) (i := i)
        rw [haq, hbq] at hss hcs
        rw [Int.toNat_natCast, Int.toNat_natCast] at hcs
        refine zY.aload_n hO dX11_couldBe_44 rfl ?_
        refine zY.getR zfl_X11_7 (by decide : 127 < 150) rfl rfl hO dX11_couldBe_45 ?_
        refine zY.iconst hO dX11_couldBe_48 ?_
        refine zY.iload_n hO dX11_couldBe_49 rfl ?_
        refine zY.imul hO dX11_couldBe_50 ?_
        refine zY.iload hO dX11_couldBe_51 rfl ?_
        refine zY.iadd hO dX11_couldBe_53 ?_
        refine zY.iald (5 * w + i) (by omega) (by omega) (by decide) (by decide : 128 < 150) rfl hO dX11_couldBe_54 ?_
        refine zY.as (b := (aq : Int)) ((hM.2.1.2.2.1 w hw i (by omega)).trans haq) ?_
        refine zY.istore7 (zc1_I _) hO dX11_couldBe_55 ?_
        refine zY.aload_n hO dX11_couldBe_57 rfl ?_
        refine zY.getR zfl_X11_7 (by decide : 127 < 150) rfl rfl hO dX11_couldBe_58 ?_
        refine zY.iconst hO dX11_couldBe_61 ?_
        refine zY.iload_n hO dX11_couldBe_62 rfl ?_
        refine zY.imul hO dX11_couldBe_63 ?_
        refine zY.iload hO dX11_couldBe_64 rfl ?_
        refine zY.iadd hO dX11_couldBe_66 ?_
        refine zY.iald (5 * o + i) (by omega) (by omega) (by decide) (by decide : 128 < 150) rfl hO dX11_couldBe_67 ?_
        refine zY.as (b := (bq : Int)) ((hM.2.1.2.2.1 o ho i (by omega)).trans hbq) ?_
        refine zY.istore8 (zc1_I _) hO dX11_couldBe_68 ?_
        have L87 : ∀ s2 : Int, s2 = (if (zsm D w o (i + 1) = true) then 1 else 0) → zY Γ (150, zSX, ad, 0, 0) 87 [some (zP 127), some (zI (w : Int)), some (zI (o : Int)), some (zI (so : Int)), some (zI s1), some (zI c1), some (zI (i : Int)), some (zI (aq : Int)), some (zI (bq : Int))] [zI s2] μ := by
          intro s2 hs2
          refine zY.istore4 (zc1_I _) hO dX11_couldBe_87 ?_
          refine zY.iload_n hO dX11_couldBe_89 rfl ?_
          refine zY.iload hO dX11_couldBe_90 rfl ?_
          refine zY.ishr (c := ((so / 2 ^ aq : Nat) : Int)) (zb_shr _ hso aq (by omega)) hO dX11_couldBe_92 ?_
          refine zY.iconst hO dX11_couldBe_93 ?_
          have L129 : ∀ c2 : Int, c2 = (if (D 1 w = D 1 o ∧ zcm D w o so (i + 1) = true) then 1 else 0) → zY Γ (150, zSX, ad, 0, 0) 129 [some (zP 127), some (zI (w : Int)), some (zI (o : Int)), some (zI (so : Int)), some (zI s2), some (zI c1), some (zI (i : Int)), some (zI (aq : Int)), some (zI (bq : Int))] [zI c2] μ := by
            intro c2 hc2
            refine zY.istore5 (zc1_I _) hO dX11_couldBe_129 ?_
            refine zY.iinc6 _ rfl (zc1_I _) hO dX11_couldBe_131 ?_
            refine zY.goto (tgt := 28) hO dX11_couldBe_134 (by decide) ?_
            refine zY.none7 ?_
            refine zY.none8 ?_
            exact ih28 (by omega) s2 c2 hs2 hc2
          have hla : so / 2 ^ aq < 64 := Nat.lt_of_le_of_lt (Nat.div_le_self _ _) hso
          have hbita := zb_bit _ hso aq (by omega)
          refine zY.iand (c := ((so / 2 ^ aq % 2 : Nat) : Int)) (zb_and1 _ hla) hO dX11_couldBe_94 ?_
          refine zY.iconst hO dX11_couldBe_95 ?_
          refine zY.icmp_ne (tgt := 117) ⟨by omega, by omega⟩ ⟨by omega, by omega⟩ hO dX11_couldBe_96 (by decide) (fun c96 => ?_) (fun c96 => ?_)
          ·
            refine zY.iload hO dX11_couldBe_117 rfl ?_
            refine zY.iload hO dX11_couldBe_119 rfl ?_
            refine zY.icmp_ne (tgt := 128) ⟨by omega, by omega⟩ ⟨by omega, by omega⟩ hO dX11_couldBe_121 (by decide) (fun c121 => ?_) (fun c121 => ?_)
            ·
              refine zY.iconst hO dX11_couldBe_128 ?_
              exact L129 0 (by
                rw [if_neg]
                rintro ⟨-, z⟩
                rcases (hcs.mp z).2 with h3 | h3
                · omega
                · have := hbita.mpr h3.1
                  omega)
            ·
              refine zY.iconst hO dX11_couldBe_124 ?_
              refine zY.goto (tgt := 129) hO dX11_couldBe_125 (by decide) ?_
              exact L129 1 (by rw [if_pos ⟨hp.1, hcs.mpr ⟨hp.2, Or.inl (by omega)⟩⟩])
          ·
            refine zY.iload_n hO dX11_couldBe_99 rfl ?_
            refine zY.iload hO dX11_couldBe_100 rfl ?_
            refine zY.ishr (c := ((so / 2 ^ bq : Nat) : Int)) (zb_shr _ hso bq (by omega)) hO dX11_couldBe_102 ?_
            refine zY.iconst hO dX11_couldBe_103 ?_
            have hlb : so / 2 ^ bq < 64 := Nat.lt_of_le_of_lt (Nat.div_le_self _ _) hso
            have hbitb := zb_bit _ hso bq (by omega)
            refine zY.iand (c := ((so / 2 ^ bq % 2 : Nat) : Int)) (zb_and1 _ hlb) hO dX11_couldBe_104 ?_
            refine zY.iconst hO dX11_couldBe_105 ?_
            refine zY.icmp_ne (tgt := 113) ⟨by omega, by omega⟩ ⟨by omega, by omega⟩ hO dX11_couldBe_106 (by decide) (fun c106 => ?_) (fun c106 => ?_)
            ·
              refine zY.iconst hO dX11_couldBe_113 ?_
              refine zY.goto (tgt := 129) hO dX11_couldBe_114 (by decide) ?_
              exact L129 0 (by
                rw [if_neg]
                rintro ⟨-, z⟩
                have hA := hbita.mp (by omega)
                rcases (hcs.mp z).2 with h3 | h3
                · have h4 : aq = bq := by omega
                  rw [h4] at hA
                  have := hbitb.mpr hA
                  omega
                · have := hbitb.mpr h3.2
                  omega)
            ·
              refine zY.iconst hO dX11_couldBe_109 ?_
              refine zY.goto (tgt := 129) hO dX11_couldBe_110 (by decide) ?_
              exact L129 1 (by rw [if_pos ⟨hp.1, hcs.mpr ⟨hp.2, Or.inr ⟨hbita.mp (by omega), hbitb.mp (by omega)⟩⟩⟩])
        refine zY.iload hO dX11_couldBe_70 rfl ?_
        refine zY.if_eq (tgt := 86) (zi1r hs1) hO dX11_couldBe_72 (by decide) (fun c72 => ?_) (fun c72 => ?_)
        ·
          have hq := (zi1 hs1).1 c72
          refine zY.iconst hO dX11_couldBe_86 ?_
          exact L87 0 (by rw [if_neg (fun z => hq (hss.mp z).1)])
        ·
          have hq := (zi1 hs1).2 c72
          refine zY.iload hO dX11_couldBe_75 rfl ?_
          refine zY.iload hO dX11_couldBe_77 rfl ?_
          refine zY.icmp_ne (tgt := 86) ⟨by omega, by omega⟩ ⟨by omega, by omega⟩ hO dX11_couldBe_79 (by decide) (fun c79 => ?_) (fun c79 => ?_)
          ·
            refine zY.iconst hO dX11_couldBe_86 ?_
            exact L87 0 (by rw [if_neg (fun z => by have := (hss.mp z).2; omega)])
          ·
            refine zY.iconst hO dX11_couldBe_82 ?_
            refine zY.goto (tgt := 87) hO dX11_couldBe_83 (by decide) ?_
            exact L87 1 (by rw [if_pos (hss.mpr ⟨hq, by omega⟩)])
  refine zY.iconst hO dX11_couldBe_0 ?_
  refine zY.istore4 (zc1_I _) hO dX11_couldBe_1 ?_
  refine zY.aload_n hO dX11_couldBe_3 rfl ?_
  refine zY.getR zfl_X11_13 (by decide : 127 < 150) rfl rfl hO dX11_couldBe_4 ?_
  refine zY.iload_n hO dX11_couldBe_7 rfl ?_
  refine zY.iald (w) rfl (by omega) (by decide) (by decide : 129 < 150) rfl hO dX11_couldBe_8 ?_
  refine zY.as hlw ?_
  refine zY.aload_n hO dX11_couldBe_9 rfl ?_
  refine zY.getR zfl_X11_13 (by decide : 127 < 150) rfl rfl hO dX11_couldBe_10 ?_
  refine zY.iload_n hO dX11_couldBe_13 rfl ?_
  refine zY.iald (o) rfl (by omega) (by decide) (by decide : 129 < 150) rfl hO dX11_couldBe_14 ?_
  refine zY.as hlo ?_
  refine zY.icmp_ne (tgt := 22) ⟨by omega, by omega⟩ ⟨by omega, by omega⟩ hO dX11_couldBe_15 (by decide) (fun c15 => ?_) (fun c15 => ?_)
  ·
    refine zY.iconst hO dX11_couldBe_22 ?_
    refine zY.istore5 (zc1_I _) hO dX11_couldBe_23 ?_
    refine zY.iconst hO dX11_couldBe_25 ?_
    refine zY.istore6 (zc1_I _) hO dX11_couldBe_26 ?_
    exact L28 0 (by omega) 1 0 rfl (by rw [if_neg (fun z => c15 z.1)])
  ·
    refine zY.iconst hO dX11_couldBe_18 ?_
    refine zY.goto (tgt := 23) hO dX11_couldBe_19 (by decide) ?_
    refine zY.istore5 (zc1_I _) hO dX11_couldBe_23 ?_
    refine zY.iconst hO dX11_couldBe_25 ?_
    refine zY.istore6 (zc1_I _) hO dX11_couldBe_26 ?_
    exact L28 0 (by omega) 1 1 rfl (by rw [if_pos ⟨by omega, rfl⟩])

set_option maxRecDepth 100000 in
set_option maxHeartbeats 4000000 in
theorem ct_X11_isKnown {μ : zMem} {D : zBk} {K0 K1 : Option zBk} (hM : zMd D K0 K1 μ) {w so : Nat} (hw : w < 10) (hso : so < 64) : Ci kX11_isKnown 2 150 zSX [zP 127, zI (w : Int), zI (so : Int)] μ (fun r μ' => r = (if zknown D w so 10 = true then 1 else 0) ∧ μ' = μ) := by
  refine Ct.of [some (zP 127), some (zI (w : Int)), some (zI (so : Int)), none, none] rfl (Nat.le_of_ble_eq_true rfl) (by decide +kernel) (fun Γ ad hO hR => ?_)
  refine zY.iconst hO dX11_isKnown_0 ?_
  refine zY.istore3 (zc1_I _) hO dX11_isKnown_1 ?_
  refine zY.iconst hO dX11_isKnown_2 ?_
  refine zY.istore4 (zc1_I _) hO dX11_isKnown_3 ?_
  have L5 : ∀ i : Nat, i ≤ 10 → ∀ k1 : Int, k1 = (if zknown D w so i = true then 1 else 0) → zY Γ (150, zSX, ad, 0, 0) 5 [some (zP 127), some (zI (w : Int)), some (zI (so : Int)), some (zI k1), some (zI (i : Int))] [] μ := by
    refine zdown (10) (fun i hi_i ih5 => ?_)
    intro k1 hk1
    refine zY.iload hO dX11_isKnown_5 rfl ?_
    refine zY.bipush hO dX11_isKnown_7 (by decide) ?_
    refine zY.icmp_ge (tgt := 39) ⟨by omega, by omega⟩ ⟨by omega, by omega⟩ hO dX11_isKnown_9 (by decide) (fun c9 => ?_) (fun c9 => ?_)
    ·
      have hi10 : i = 10 := by omega
      refine zY.iload_n hO dX11_isKnown_39 rfl ?_
      exact zY.zret (zi1b hk1) rfl ⟨_, rfl, ⟨by rw [hk1, hi10], rfl⟩⟩ hR hO dX11_isKnown_40
    ·
      have hks := zknown_s (D := D) (w := w) (so := so) (i := i)
      refine zY.iload_n hO dX11_isKnown_12 rfl ?_
      refine zY.if_eq (tgt := 31) (zi1r hk1) hO dX11_isKnown_13 (by decide) (fun c13 => ?_) (fun c13 => ?_)
      ·
        have hp := (zi1 hk1).1 c13
        refine zY.iconst hO dX11_isKnown_31 ?_
        refine zY.istore3 (zc1_I _) hO dX11_isKnown_32 ?_
        refine zY.iinc4 _ rfl (zc1_I _) hO dX11_isKnown_33 ?_
        refine zY.goto (tgt := 5) hO dX11_isKnown_36 (by decide) ?_
        exact ih5 (by omega) 0 (by rw [if_neg (fun z => hp (hks.mp z).1)])
      ·
        have hp := (zi1 hk1).2 c13
        refine zY.aload_n hO dX11_isKnown_16 rfl ?_
        refine zY.iload_n hO dX11_isKnown_17 rfl ?_
        refine zY.iload hO dX11_isKnown_18 rfl ?_
        refine zY.iload_n hO dX11_isKnown_20 rfl ?_
        refine zY.callV3iD (ct_X11_couldBe hM hw (o := i) (by omega) hso) (by decide) zcal_X11_couldBe zml_X11_260 (by decide : 127 < 150) rfl rfl (Nat.le_of_ble_eq_true rfl) rfl ⟨Nat.zero_le _, Nat.zero_le _⟩ hO dX11_isKnown_21 ?_
        refine zY.if_ne (tgt := 31) zr_b hO dX11_isKnown_24 (by decide) (fun c24 => ?_) (fun c24 => ?_)
        ·
          replace c24 := zb1.mp c24
          refine zY.iconst hO dX11_isKnown_31 ?_
          refine zY.istore3 (zc1_I _) hO dX11_isKnown_32 ?_
          refine zY.iinc4 _ rfl (zc1_I _) hO dX11_isKnown_33 ?_
          refine zY.goto (tgt := 5) hO dX11_isKnown_36 (by decide) ?_
          exact ih5 (by omega) 0 (by rw [if_neg (fun z => (hks.mp z).2 c24)])
        ·
          replace c24 := zb0.mp c24
          refine zY.iconst hO dX11_isKnown_27 ?_
          refine zY.goto (tgt := 32) hO dX11_isKnown_28 (by decide) ?_
          refine zY.istore3 (zc1_I _) hO dX11_isKnown_32 ?_
          refine zY.iinc4 _ rfl (zc1_I _) hO dX11_isKnown_33 ?_
          refine zY.goto (tgt := 5) hO dX11_isKnown_36 (by decide) ?_
          exact ih5 (by omega) 1 (by rw [if_pos (hks.mpr ⟨hp, c24⟩)])
  exact L5 0 (by omega) 1 rfl

set_option maxRecDepth 100000 in
set_option maxHeartbeats 4000000 in
theorem ct_X11_known {μ : zMem} {D : zBk} {K0 K1 : Option zBk} (hM : zMd D K0 K1 μ) {w o : Int} (hw : zr w) (ho : zr o) : Ci kX11_known 3 150 zSX [zP 127, zI w, zI o] μ (fun a μ' => a = zA_known D w o ∧ μ' = μ) := by
  refine Ct.of [some (zP 127), some (zI w), some (zI o)] rfl (Nat.le_of_ble_eq_true rfl) (by decide +kernel) (fun Γ ad hO hR => ?_)
  refine zY.iload_n hO dX11_known_0 rfl ?_
  refine zY.callS1iD (ct_X11_isWord hw) (by decide) zcal_X11_isWord zml_X11_112 (Nat.le_of_ble_eq_true rfl) rfl ⟨Nat.zero_le _, Nat.zero_le _⟩ hO dX11_known_1 ?_
  refine zY.if_ne (tgt := 9) zr_b hO dX11_known_4 (by decide) (fun c4 => ?_) (fun c4 => ?_)
  ·
    replace c4 := zb1.mp c4
    refine zY.iload_n hO dX11_known_9 rfl ?_
    refine zY.i2l ho hO dX11_known_10 ?_
    refine zY.lconst0 hO dX11_known_11 ?_
    refine zY.ldc2 hO zcl_X11_264 dX11_known_12 ?_
    refine zY.callS3iD (ct_X11_in (a := o) (b := 0) (c := 63) ⟨by omega, by omega⟩ ⟨by omega, by omega⟩ ⟨by omega, by omega⟩) (by decide) zcal_X11_in zml_X11_83 (Nat.le_of_ble_eq_true rfl) rfl ⟨Nat.zero_le _, Nat.zero_le _⟩ hO dX11_known_15 ?_
    refine zY.if_ne (tgt := 24) zr_b hO dX11_known_18 (by decide) (fun c18 => ?_) (fun c18 => ?_)
    ·
      replace c18 := zb1.mp c18
      obtain ⟨wq, hwq⟩ : ∃ wq : Nat, w = (wq : Int) := ⟨w.toNat, by omega⟩
      obtain ⟨oq, hoq⟩ : ∃ oq : Nat, o = (oq : Int) := ⟨o.toNat, by omega⟩
      subst hwq hoq
      refine zY.aload_n hO dX11_known_24 rfl ?_
      refine zY.iload_n hO dX11_known_25 rfl ?_
      refine zY.iload_n hO dX11_known_26 rfl ?_
      refine zY.callV2iD (ct_X11_isKnown hM (w := wq) (so := oq) (by omega) (by omega)) (by decide) zcal_X11_isKnown zml_X11_266 (by decide : 127 < 150) rfl rfl (Nat.le_of_ble_eq_true rfl) rfl ⟨Nat.zero_le _, Nat.zero_le _⟩ hO dX11_known_27 ?_
      refine zY.if_eq (tgt := 37) zr_b hO dX11_known_30 (by decide) (fun c30 => ?_) (fun c30 => ?_)
      ·
        replace c30 := zb0.mp c30
        refine zY.iconst hO dX11_known_37 ?_
        exact zY.iret rfl ⟨_, rfl, ⟨by unfold zA_known; rw [if_pos c4, if_pos c18, Int.toNat_natCast, Int.toNat_natCast, if_neg c30], rfl⟩⟩ hR hO dX11_known_38
      ·
        replace c30 := zb1.mp c30
        refine zY.iconst hO dX11_known_33 ?_
        refine zY.goto (tgt := 38) hO dX11_known_34 (by decide) ?_
        exact zY.iret rfl ⟨_, rfl, ⟨by unfold zA_known; rw [if_pos c4, if_pos c18, Int.toNat_natCast, Int.toNat_natCast, if_pos c30], rfl⟩⟩ hR hO dX11_known_38
    ·
      replace c18 := zb0.mp c18
      refine zY.bipush hO dX11_known_21 (by decide) ?_
      exact zY.iret rfl ⟨_, rfl, ⟨by unfold zA_known; rw [if_pos c4, if_neg c18], rfl⟩⟩ hR hO dX11_known_23
  ·
    replace c4 := zb0.mp c4
    refine zY.iconst hO dX11_known_7 ?_
    exact zY.iret rfl ⟨_, rfl, ⟨by unfold zA_known; rw [if_neg c4], rfl⟩⟩ hR hO dX11_known_8

set_option maxRecDepth 100000 in
set_option maxHeartbeats 4000000 in
theorem ct_X11_knownOf {μ : zMem} {D : zBk} {K0 K1 : Option zBk} (hM : zMd D K0 K1 μ) {s o : Int} (hs : zr s) (ho : zr o) : Ci kX11_knownOf 3 150 zSX [zP 127, zI s, zI o] μ (fun a μ' => a = zA_knownOf D s o ∧ μ' = μ) := by
  refine Ct.of [some (zP 127), some (zI s), some (zI o), none, none] rfl (Nat.le_of_ble_eq_true rfl) (by decide +kernel) (fun Γ ad hO hR => ?_)
  refine zY.iload_n hO dX11_knownOf_0 rfl ?_
  refine zY.callS1iD (ct_X11_isSheet hs) (by decide) zcal_X11_isSheet zml_X11_120 (Nat.le_of_ble_eq_true rfl) rfl ⟨Nat.zero_le _, Nat.zero_le _⟩ hO dX11_knownOf_1 ?_
  refine zY.if_ne (tgt := 9) zr_b hO dX11_knownOf_4 (by decide) (fun c4 => ?_) (fun c4 => ?_)
  ·
    replace c4 := zb1.mp c4
    refine zY.iload_n hO dX11_knownOf_9 rfl ?_
    refine zY.i2l ho hO dX11_knownOf_10 ?_
    refine zY.lconst0 hO dX11_knownOf_11 ?_
    refine zY.ldc2 hO zcl_X11_264 dX11_knownOf_12 ?_
    refine zY.callS3iD (ct_X11_in (a := o) (b := 0) (c := 63) ⟨by omega, by omega⟩ ⟨by omega, by omega⟩ ⟨by omega, by omega⟩) (by decide) zcal_X11_in zml_X11_83 (Nat.le_of_ble_eq_true rfl) rfl ⟨Nat.zero_le _, Nat.zero_le _⟩ hO dX11_knownOf_15 ?_
    refine zY.if_ne (tgt := 24) zr_b hO dX11_knownOf_18 (by decide) (fun c18 => ?_) (fun c18 => ?_)
    ·
      replace c18 := zb1.mp c18
      obtain ⟨sq, hsq⟩ : ∃ sq : Nat, s = (sq : Int) := ⟨s.toNat, by omega⟩
      obtain ⟨oq, hoq⟩ : ∃ oq : Nat, o = (oq : Int) := ⟨o.toNat, by omega⟩
      subst hsq hoq
      have hs6 : sq < 6 := by omega
      have hsz := hM.1.2.1 sq hs6
      refine zY.iconst hO dX11_knownOf_24 ?_
      refine zY.istore3 (zc1_I _) hO dX11_knownOf_25 ?_
      refine zY.iconst hO dX11_knownOf_26 ?_
      refine zY.istore4 (zc1_I _) hO dX11_knownOf_27 ?_
      have L29 : ∀ i : Nat, i ≤ (D 4 sq).toNat → zY Γ (150, zSX, ad, 0, 0) 29 [some (zP 127), some (zI (sq : Int)), some (zI (oq : Int)), some (zI (zkof D sq oq i)), some (zI (i : Int))] [] μ := by
        refine zdown ((D 4 sq).toNat) (fun i hi_i ih29 => ?_)
        refine zY.iload hO dX11_knownOf_29 rfl ?_
        refine zY.aload_n hO dX11_knownOf_31 rfl ?_
        refine zY.getR zfl_X11_22 (by decide : 127 < 150) rfl rfl hO dX11_knownOf_32 ?_
        refine zY.iload_n hO dX11_knownOf_35 rfl ?_
        refine zY.iald (sq) rfl (by omega) (by decide) (by decide : 132 < 150) rfl hO dX11_knownOf_36 ?_
        refine zY.as (b := D 4 sq) (hM.2.1.1 4 (by omega) (by omega) sq hs6) ?_
        refine zY.icmp_ge (tgt := 74) ⟨by omega, by omega⟩ ⟨by omega, by omega⟩ hO dX11_knownOf_37 (by decide) (fun c37 => ?_) (fun c37 => ?_)
        ·
          refine zY.iload_n hO dX11_knownOf_74 rfl ?_
          exact zY.iret rfl ⟨_, rfl, ⟨by unfold zA_knownOf; rw [if_pos c4, if_pos c18, Int.toNat_natCast, Int.toNat_natCast, show i = (D 4 sq).toNat by omega], rfl⟩⟩ hR hO dX11_knownOf_75
        ·
          have hpg := hsz.2.2.2.2.2.2.2.2.2 i (by omega)
          obtain ⟨wq, hwq⟩ : ∃ wq : Nat, D 3 (6 * sq + i) = (wq : Int) := ⟨(D 3 (6 * sq + i)).toNat, by omega⟩
          refine zY.iload_n hO dX11_knownOf_40 rfl ?_
          refine zY.aload_n hO dX11_knownOf_41 rfl ?_
          refine zY.aload_n hO dX11_knownOf_42 rfl ?_
          refine zY.getR zfl_X11_19 (by decide : 127 < 150) rfl rfl hO dX11_knownOf_43 ?_
          refine zY.bipush hO dX11_knownOf_46 (by decide) ?_
          refine zY.iload_n hO dX11_knownOf_48 rfl ?_
          refine zY.imul hO dX11_knownOf_49 ?_
          refine zY.iload hO dX11_knownOf_50 rfl ?_
          refine zY.iadd hO dX11_knownOf_52 ?_
          refine zY.iald (6 * sq + i) (by omega) (by omega) (by decide) (by decide : 131 < 150) rfl hO dX11_knownOf_53 ?_
          refine zY.as (b := (wq : Int)) ((hM.2.1.2.2.2.1 sq hs6 i (by omega)).trans hwq) ?_
          refine zY.iload_n hO dX11_knownOf_54 rfl ?_
          refine zY.callV2iD (ct_X11_isKnown hM (w := wq) (so := oq) (by omega) (by omega)) (by decide) zcal_X11_isKnown zml_X11_266 (by decide : 127 < 150) rfl rfl (Nat.le_of_ble_eq_true rfl) rfl ⟨Nat.zero_le _, Nat.zero_le _⟩ hO dX11_knownOf_55 ?_
          refine zY.if_eq (tgt := 65) zr_b hO dX11_knownOf_58 (by decide) (fun c58 => ?_) (fun c58 => ?_)
          ·
            replace c58 := zb0.mp c58
            refine zY.iconst hO dX11_knownOf_65 ?_
            refine zY.iadd hO dX11_knownOf_66 ?_
            refine zY.istore3 (zc1_I _) hO dX11_knownOf_67 ?_
            refine zY.iinc4 _ rfl (zc1_I _) hO dX11_knownOf_68 ?_
            refine zY.goto (tgt := 29) hO dX11_knownOf_71 (by decide) ?_
            have hin := ih29 (by omega)
            simp only [zkof] at hin
            rw [hwq, Int.toNat_natCast, if_neg c58] at hin
            exact hin
          ·
            replace c58 := zb1.mp c58
            refine zY.iconst hO dX11_knownOf_61 ?_
            refine zY.goto (tgt := 66) hO dX11_knownOf_62 (by decide) ?_
            refine zY.iadd hO dX11_knownOf_66 ?_
            refine zY.istore3 (zc1_I _) hO dX11_knownOf_67 ?_
            refine zY.iinc4 _ rfl (zc1_I _) hO dX11_knownOf_68 ?_
            refine zY.goto (tgt := 29) hO dX11_knownOf_71 (by decide) ?_
            have hin := ih29 (by omega)
            simp only [zkof] at hin
            rw [hwq, Int.toNat_natCast, if_pos c58] at hin
            exact hin
      exact L29 0 (by omega)
    ·
      replace c18 := zb0.mp c18
      refine zY.bipush hO dX11_knownOf_21 (by decide) ?_
      exact zY.iret rfl ⟨_, rfl, ⟨by unfold zA_knownOf; rw [if_pos c4, if_neg c18], rfl⟩⟩ hR hO dX11_knownOf_23
  ·
    replace c4 := zb0.mp c4
    refine zY.iconst hO dX11_knownOf_7 ?_
    exact zY.iret rfl ⟨_, rfl, ⟨by unfold zA_knownOf; rw [if_neg c4], rfl⟩⟩ hR hO dX11_knownOf_8
