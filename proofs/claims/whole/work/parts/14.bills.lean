/-! Bills.write, writeAll; Stock -/
theorem zcs_step {D : zBk} {s ch i β : Nat} {g : Nat → Int} (j : Nat) :
    (if 6 * β ≤ j ∧ j < 6 * β + 6 then (if 6 * β ≤ j ∧ j < 6 * β + 6 then zcs D s ch i (j - 6 * β) else g j) + zcw D (zwi D s i ch) (D 1 (zwi D s i ch)).toNat (j - 6 * β) else if 6 * β ≤ j ∧ j < 6 * β + 6 then zcs D s ch i (j - 6 * β) else g j) = if 6 * β ≤ j ∧ j < 6 * β + 6 then zcs D s ch (i + 1) (j - 6 * β) else g j := by
  simp only [zcs]
  by_cases h2 : 6 * β ≤ j ∧ j < 6 * β + 6
  · rw [if_pos h2, if_pos h2, if_pos h2]
  · rw [if_neg h2, if_neg h2, if_neg h2]
/-- what write leaves behind -/
def zBw (D : zBk) (b s ch β : Nat) (μ μ' : zMem) : Prop := ∃ f : Nat → Int, (∀ j, ¬ (6 * β ≤ j ∧ j < 6 * β + 6) → f j = μ (b + 2) j) ∧ (zokc D s ch → ∀ x, x < 6 → f (6 * β + x) = znd D s ch x) ∧ μ' = zrow (zrow μ (b + 2) f) (b + 4) (fun j => if j = β then zbx D s ch else μ (b + 4) j)
theorem zsh_div : ∀ c : Nat, c < 64 → ∀ m : Nat, m < 7 → (c / 2 ^ m = 0 ↔ c < 2 ^ m) := by decide +kernel

set_option maxRecDepth 100000 in
set_option maxHeartbeats 4000000 in
theorem ct_X0_write {μ : zMem} {b nB : Nat} (hB : zBil b nB) {D : zBk} {β s ch : Nat} (hW : zWF D) (hS : zShp 1 D μ) (hβ : β < nB) (hs : s < 6) (hc : ch < 64)  : Cv kX0_write 6 150 zSX [zP b, zI (β : Int), zP 1, zI (s : Int), zI (ch : Int)] μ (fun μ' => zBw D b s ch β μ μ') := by
  refine Ct.of [some (zP b), some (zI (β : Int)), some (zP 1), some (zI (s : Int)), some (zI (ch : Int)), none, none, none, none, none, none] rfl (Nat.le_of_ble_eq_true rfl) (by decide +kernel) (fun Γ ad hO hR => ?_)
  refine zY.iconst hO dX0_write_0 ?_
  refine zY.istore5 (zc1_I _) hO dX0_write_1 ?_
  have L3 : ∀ i : Nat, i ≤ 6 → ∀ μ1 : zMem, μ1 = zrow μ (b + 2) (fun j => if 6 * β ≤ j ∧ j < 6 * β + i then 0 else μ (b + 2) j) → zY Γ (150, zSX, ad, 0, 0) 3 [some (zP b), some (zI (β : Int)), some (zP 1), some (zI (s : Int)), some (zI (ch : Int)), some (zI (i : Int)), none, none, none, none, none] [] μ1 := by
    refine zdown (6) (fun i hi_i ih3 => ?_)
    intro μ1 hI
    have h20 := hB.2.2.2.2
    have hsz := hW.2.1 s hs
    have h20 := hB.2.2.2.2
    have hsz := hW.2.1 s hs
    refine zY.iload hO dX0_write_3 rfl ?_
    refine zY.bipush hO dX0_write_5 (by decide) ?_
    refine zY.icmp_ge (tgt := 31) ⟨by omega, by omega⟩ ⟨by omega, by omega⟩ hO dX0_write_7 (by decide) (fun c7 => ?_) (fun c7 => ?_)
    ·
      have hi6 : i = 6 := by omega
      subst hi6
      refine zY.aload_n hO dX0_write_31 rfl ?_
      refine zY.getR zfl_X0_20 hB.1 hB.2.1 rfl hO dX0_write_32 ?_
      refine zY.iload_n hO dX0_write_35 rfl ?_
      refine zY.bipush hO dX0_write_36 (by decide) ?_
      refine zY.as2 (b := ((β : Nat) : Int)) (by omega) ?_
      refine zY.callV2vD (ct_putN hB.2.2.2.1 (j := β) (by omega)) (by decide) zcal_X5_put zml_X0_31 hB.2.2.2.1.1 hB.2.2.2.1.2.1 rfl (Nat.le_of_ble_eq_true rfl) rfl ⟨Nat.zero_le _, Nat.zero_le _⟩ hO dX0_write_38 ?_
      obtain ⟨μ2, hμ2⟩ : ∃ μ2 : zMem, μ2 = zwr μ1 (b + 4) β (-6) := ⟨_, rfl⟩
      refine zY.mem hμ2.symm ?_
      have hI : μ2 = zrow (zrow μ (b + 2) (fun j => if 6 * β ≤ j ∧ j < 6 * β + 6 then 0 else μ (b + 2) j)) (b + 4) (fun j => if j = β then -6 else μ (b + 4) j) := by rw [hμ2, zwr_eq_row, hI, zrow_ne (q := b + 2) (q' := b + 4) (by omega)]
      refine zY.aload_n hO dX0_write_41 rfl ?_
      refine zY.getR zfl_X0_35 (by decide : 1 < 150) rfl rfl hO dX0_write_42 ?_
      refine zY.iload_n hO dX0_write_45 rfl ?_
      refine zY.as (b := ((s : Nat) : Int)) (by omega) ?_
      refine zY.callV1iD (ct_atN zrw_14 (j := s) (by omega)) (by decide) zcal_X5_at zml_X0_23 (by decide : 14 < 150) rfl rfl (Nat.le_of_ble_eq_true rfl) rfl ⟨Nat.zero_le _, Nat.zero_le _⟩ hO dX0_write_46 ?_
      obtain ⟨m, hm⟩ : ∃ m : Nat, D 4 s = (m : Int) := ⟨(D 4 s).toNat, by omega⟩
      refine zY.as (b := (m : Int)) (by rw [hI, zrow_ne (by omega), zrow_ne (by omega)]; exact (hS.2.1 s hs).1.trans hm) ?_
      refine zY.istore5 (zc1_I _) hO dX0_write_49 ?_
      refine zY.iload hO dX0_write_51 rfl ?_
      refine zY.iload hO dX0_write_53 rfl ?_
      obtain ⟨g, hg⟩ : ∃ g : Nat, g = ch / 2 ^ m := ⟨_, rfl⟩
      have hg64 : g < 64 := by rw [hg]; exact Nat.lt_of_le_of_lt (Nat.div_le_self _ _) hc
      refine zY.ishr (c := (g : Int)) (by rw [hg]; exact zb_shr ch hc m (by omega)) hO dX0_write_55 ?_
      refine zY.if_eq (tgt := 60) ⟨by omega, by omega⟩ hO dX0_write_56 (by decide) (fun c56 => ?_) (fun c56 => ?_)
      ·
        have hch : ch < 2 ^ m := (zsh_div ch hc m (by omega)).mp (by rw [← hg]; omega)
        refine zY.bipush hO dX0_write_60 (by decide) ?_
        refine zY.istore6 (zc1_I _) hO dX0_write_62 ?_
        refine zY.bipush hO dX0_write_64 (by decide) ?_
        refine zY.istore7 (zc1_I _) hO dX0_write_66 ?_
        refine zY.iconst hO dX0_write_68 ?_
        refine zY.istore8 (zc1_I _) hO dX0_write_69 ?_
        have L71 : ∀ i : Nat, i ≤ m → ∀ (μ1 : zMem) (fi la : Int), (∀ k, k < i → ch.testBit k = true → 0 ≤ D 2 (D 3 (6 * s + k)).toNat) → (i = 0 ∧ fi = -6 ∧ la = -6 ∨ 0 < i ∧ fi = D 0 (5 * zwi D s 0 ch) ∧ la = zll D (zwi D s (i - 1) ch)) → μ1 = zrow (zrow μ (b + 2) (fun j => if 6 * β ≤ j ∧ j < 6 * β + 6 then zcs D s ch i (j - 6 * β) else μ (b + 2) j)) (b + 4) (fun j => if j = β then -6 else μ (b + 4) j) → zY Γ (150, zSX, ad, 0, 0) 71 [some (zP b), some (zI (β : Int)), some (zP 1), some (zI (s : Int)), some (zI (ch : Int)), some (zI (m : Int)), some (zI fi), some (zI la), some (zI (i : Int)), none, none] [] μ1 := by
          refine zdown (m) (fun i hi_i ih71 => ?_)
          intro μ1 fi la hok hfl hI
          refine zY.iload hO dX0_write_71 rfl ?_
          refine zY.iload hO dX0_write_73 rfl ?_
          refine zY.icmp_ge (tgt := 168) ⟨by omega, by omega⟩ ⟨by omega, by omega⟩ hO dX0_write_75 (by decide) (fun c75 => ?_) (fun c75 => ?_)
          ·
            have him : i = m := by omega
            subst him
            refine zY.aload_n hO dX0_write_168 rfl ?_
            refine zY.getR zfl_X0_20 hB.1 hB.2.1 rfl hO dX0_write_169 ?_
            refine zY.iload_n hO dX0_write_172 rfl ?_
            refine zY.aload_n hO dX0_write_173 rfl ?_
            refine zY.iload_n hO dX0_write_174 rfl ?_
            refine zY.aload_n hO dX0_write_175 rfl ?_
            refine zY.getR zfl_X0_61 (by decide : 1 < 150) rfl rfl hO dX0_write_176 ?_
            refine zY.iconst hO dX0_write_179 ?_
            refine zY.as (b := ((0 : Nat) : Int)) (by omega) ?_
            refine zY.callV1iD (ct_atN zrw_2 (j := 0) (by omega)) (by decide) zcal_X5_at zml_X0_23 (by decide : 2 < 150) rfl rfl (Nat.le_of_ble_eq_true rfl) rfl ⟨Nat.zero_le _, Nat.zero_le _⟩ hO dX0_write_180 ?_
            refine zY.as (b := D 8 1) (by rw [hI, zrow_ne (by omega), zrow_ne (by omega)]; exact hS.2.2.2) ?_
            refine zY.iload hO dX0_write_183 rfl ?_
            refine zY.iload hO dX0_write_185 rfl ?_
            refine zY.callV4iD (ct_X0_byLaw hB (A := znd D s ch) (μ := μ1) (fun x hx => by
              rw [hI, zrow_ne (by omega), zrow_eq]
              rw [if_pos ⟨by omega, by omega⟩, show 6 * β + x - 6 * β = x by omega]
              unfold znd
              rw [hm, Int.toNat_natCast]) (fun x hx => by have := znd_b (ch := ch) x hW hs; omega) ⟨by have := hW.2.2; omega, by have := hW.2.2; omega⟩ hβ) (by decide) zcal_X0_byLaw zml_X0_64 hB.1 hB.2.1 rfl (Nat.le_of_ble_eq_true rfl) rfl ⟨Nat.zero_le _, Nat.zero_le _⟩ hO dX0_write_187 ?_
            refine zY.as2 (b := ((β : Nat) : Int)) (by omega) ?_
            refine zY.callV2vD (ct_putN hB.2.2.2.1 (j := β) (by omega)) (by decide) zcal_X5_put zml_X0_31 hB.2.2.2.1.1 hB.2.2.2.1.2.1 rfl (Nat.le_of_ble_eq_true rfl) rfl ⟨Nat.zero_le _, Nat.zero_le _⟩ hO dX0_write_190 ?_
            exact zY.vret rfl ⟨rfl, ⟨fun j => if 6 * β ≤ j ∧ j < 6 * β + 6 then zcs D s ch i (j - 6 * β) else μ (b + 2) j, fun j hj => if_neg hj, fun z x hx => (if_pos ⟨by omega, by omega⟩).trans (by rw [show 6 * β + x - 6 * β = x by omega]; unfold znd; rw [hm, Int.toNat_natCast]), by
              rw [zwr_eq_row, hI, zrow_row]
              refine zrow_congr (fun j => ?_)
              by_cases hj : j = β
              · rw [if_pos hj, if_pos hj]
                have hokc : zokc D s ch := ⟨by rw [hm]; exact hch, by rw [hm]; exact hok⟩
                rcases hfl with ⟨h1, h2, h3⟩ | ⟨h1, h2, h3⟩
                · have hn0 : ∀ x, x < 6 → znd D s ch x = 0 := fun x hx => by unfold znd; rw [hm, Int.toNat_natCast, h1]; rfl
                  have hz6 : zbst (D 8 1) (znd D s ch) 6 = -6 := by
                    rcases zbst_b (D 8 1) (znd D s ch) 6 with h4 | h4
                    · exact h4
                    · have := hn0 (zbst (D 8 1) (znd D s ch) 6).toNat (by omega); omega
                  rw [show zbx D s ch = -6 from if_neg (fun z => by have := z.2; omega), h2, h3, hz6]
                  (repeat' split) <;> rfl
                · rw [show zbx D s ch = zbk D s ch from if_pos ⟨hokc, by omega⟩, h2, h3]
                  unfold zbk
                  rw [hm, Int.toNat_natCast]
              · rw [if_neg hj, if_neg hj, zrow_eq, if_neg hj]⟩⟩ hR hO dX0_write_193
          ·
            refine zY.aload_n hO dX0_write_78 rfl ?_
            refine zY.iload_n hO dX0_write_79 rfl ?_
            refine zY.iload hO dX0_write_80 rfl ?_
            refine zY.callV2iD (ct_X6_wordAt hs (by omega)) (by decide) zcal_X6_wordAt zml_X0_40 (by decide : 1 < 150) rfl rfl (Nat.le_of_ble_eq_true rfl) rfl ⟨Nat.zero_le _, Nat.zero_le _⟩ hO dX0_write_82 ?_
            have hwr := hsz.2.2.2.2.2.2.2.2.2 i (by omega)
            obtain ⟨w, hw⟩ : ∃ w : Nat, D 3 (6 * s + i) = (w : Int) := ⟨(D 3 (6 * s + i)).toNat, by omega⟩
            refine zY.as (b := (w : Int)) (by rw [hI, zrow_ne (by omega), zrow_ne (by omega)]; exact ((hS.2.1 s hs).2.2.2.2 i (by omega)).trans hw) ?_
            have hw10 : w < 10 := by omega
            have hWw := hW.1 w hw10
            refine zY.istore9 (zc1_I _) hO dX0_write_85 ?_
            have L111 : ∀ p : Int, (p = D 2 w ∧ ch.testBit i = true ∨ p = (w : Int) ∧ ¬ ch.testBit i = true) → zY Γ (150, zSX, ad, 0, 0) 111 [some (zP b), some (zI (β : Int)), some (zP 1), some (zI (s : Int)), some (zI (ch : Int)), some (zI (m : Int)), some (zI fi), some (zI la), some (zI (i : Int)), some (zI (w : Int)), none] [zI p] μ1 := by
              intro p hp
              refine zY.istore10 (zc1_I _) hO dX0_write_111 ?_
              refine zY.iload hO dX0_write_113 rfl ?_
              refine zY.bipush hO dX0_write_115 (by decide) ?_
              refine zY.icmp_ne (tgt := 121) ⟨by omega, by omega⟩ ⟨by omega, by omega⟩ hO dX0_write_117 (by decide) (fun c117 => ?_) (fun c117 => ?_)
              ·
                have hp0 : 0 ≤ p := by omega
                obtain ⟨v, hv⟩ : ∃ v : Nat, p = (v : Int) := ⟨p.toNat, by omega⟩
                have hzw : zwi D s i ch = v := by
                  unfold zwi
                  rw [hw, Int.toNat_natCast]
                  rcases hp with ⟨h1, h2⟩ | ⟨h1, h2⟩
                  · rw [if_pos h2]; omega
                  · rw [if_neg h2]; omega
                have hv10 : v < 10 := by rw [← hzw]; exact zwi_lt hW hs (by omega)
                have hWv := hW.1 v hv10
                subst hv
                have L135 : ∀ fi : Int, fi = D 0 (5 * zwi D s 0 ch) → zY Γ (150, zSX, ad, 0, 0) 135 [some (zP b), some (zI (β : Int)), some (zP 1), some (zI (s : Int)), some (zI (ch : Int)), some (zI (m : Int)), some (zI fi), none, some (zI (i : Int)), some (zI (w : Int)), some (zI (v : Int))] [] μ1 := by
                  intro fi hfi
                  refine zY.aload_n hO dX0_write_135 rfl ?_
                  refine zY.iload hO dX0_write_136 rfl ?_
                  refine zY.aload_n hO dX0_write_138 rfl ?_
                  refine zY.getR zfl_X0_54 (by decide : 1 < 150) rfl rfl hO dX0_write_139 ?_
                  refine zY.iload hO dX0_write_142 rfl ?_
                  refine zY.as (b := ((v : Nat) : Int)) (by omega) ?_
                  refine zY.callV1iD (ct_atN zrw_8 (j := v) (by omega)) (by decide) zcal_X5_at zml_X0_23 (by decide : 8 < 150) rfl rfl (Nat.le_of_ble_eq_true rfl) rfl ⟨Nat.zero_le _, Nat.zero_le _⟩ hO dX0_write_144 ?_
                  refine zY.as (b := D 1 v) (by rw [hI, zrow_ne (by omega), zrow_ne (by omega)]; exact (hS.1 v hv10).1) ?_
                  refine zY.iconst hO dX0_write_147 ?_
                  refine zY.isub hO dX0_write_148 ?_
                  obtain ⟨k, hk⟩ : ∃ k : Nat, D 1 v - 1 = (k : Int) := ⟨(D 1 v - 1).toNat, by omega⟩
                  refine zY.as hk ?_
                  refine zY.callV2iD (ct_X6_letterOf hv10 (by omega)) (by decide) zcal_X6_letterOf zml_X0_51 (by decide : 1 < 150) rfl rfl (Nat.le_of_ble_eq_true rfl) rfl ⟨Nat.zero_le _, Nat.zero_le _⟩ hO dX0_write_149 ?_
                  refine zY.as (b := zll D v) (by rw [hI, zrow_ne (by omega), zrow_ne (by omega)]; unfold zll; rw [show (D 1 v).toNat - 1 = k by omega]; exact (hS.1 v hv10).2.2 k (by omega)) ?_
                  refine zY.istore7 (zc1_I _) hO dX0_write_152 ?_
                  refine zY.aload_n hO dX0_write_154 rfl ?_
                  refine zY.iload_n hO dX0_write_155 rfl ?_
                  refine zY.aload_n hO dX0_write_156 rfl ?_
                  refine zY.iload hO dX0_write_157 rfl ?_
                  refine zY.callV3vD (ct_X0_addLetters hB hW (μ := μ1) (by
                    rw [hI]
                    refine ⟨fun w hw => ?_, fun s hs => ?_, ?_, ?_⟩
                    · rw [zrow_ne (by omega), zrow_ne (by omega), zrow_ne (by omega), zrow_ne (by omega), zrow_ne (by omega), zrow_ne (by omega)]; exact hS.1 w hw
                    · rw [zrow_ne (by omega), zrow_ne (by omega), zrow_ne (by omega), zrow_ne (by omega), zrow_ne (by omega), zrow_ne (by omega), zrow_ne (by omega), zrow_ne (by omega), zrow_ne (by omega), zrow_ne (by omega)]; exact hS.2.1 s hs
                    · rw [zrow_ne (by omega), zrow_ne (by omega)]; exact hS.2.2.1
                    · rw [zrow_ne (by omega), zrow_ne (by omega)]; exact hS.2.2.2) hβ hv10) (by decide) zcal_X0_addLetters zml_X0_57 hB.1 hB.2.1 rfl (Nat.le_of_ble_eq_true rfl) rfl ⟨Nat.zero_le _, Nat.zero_le _⟩ hO dX0_write_159 ?_
                  refine zY.iinc8 ((i + 1 : Nat) : Int) (by omega) (zc1_I _) hO dX0_write_162 ?_
                  refine zY.goto (tgt := 71) hO dX0_write_165 (by decide) ?_
                  refine zY.none9 ?_
                  refine zY.none10 ?_
                  exact ih71 (by omega) _ _ _ (fun k hk hb => by
                    by_cases hki : k = i
                    · subst hki
                      rw [hw, Int.toNat_natCast]
                      rcases hp with ⟨h1, _⟩ | ⟨_, h2⟩
                      · omega
                      · exact absurd hb h2
                    · exact hok k (by omega) hb) (Or.inr ⟨by omega, hfi, by rw [Nat.add_sub_cancel, hzw]⟩) (by
                    rw [hI, zrow_ne (q := b + 4) (q' := b + 2) (by omega), zrow_eq]
                    funext q j
                    by_cases h1 : q = b + 2
                    · subst h1
                      rw [zrow_eq, zrow_ne (by omega), zrow_eq, ← hzw]
                      exact zcs_step j
                    · by_cases h2 : q = b + 4
                      · subst h2
                        rw [zrow_ne (by omega), zrow_eq, zrow_eq]
                      · rw [zrow_ne h1, zrow_ne h2, zrow_ne h1, zrow_ne h2, zrow_ne h1])
                refine zY.iload hO dX0_write_121 rfl ?_
                refine zY.if_ne (tgt := 135) ⟨by omega, by omega⟩ hO dX0_write_123 (by decide) (fun c123 => ?_) (fun c123 => ?_)
                ·
                  refine zY.none7 ?_
                  exact L135 _ (by rcases hfl with ⟨h1, h2, h3⟩ | ⟨h1, h2, h3⟩; exact absurd h1 (by omega); exact h2)
                ·
                  refine zY.aload_n hO dX0_write_126 rfl ?_
                  refine zY.iload hO dX0_write_127 rfl ?_
                  refine zY.iconst hO dX0_write_129 ?_
                  refine zY.callV2iD (ct_X6_letterOf (i := 0) hv10 (by omega)) (by decide) zcal_X6_letterOf zml_X0_51 (by decide : 1 < 150) rfl rfl (Nat.le_of_ble_eq_true rfl) rfl ⟨Nat.zero_le _, Nat.zero_le _⟩ hO dX0_write_130 ?_
                  refine zY.as (b := D 0 (5 * v)) (by rw [hI, zrow_ne (by omega), zrow_ne (by omega)]; exact (hS.1 v hv10).2.2 0 (by omega)) ?_
                  refine zY.istore6 (zc1_I _) hO dX0_write_133 ?_
                  refine zY.none7 ?_
                  exact L135 _ (by have h0 : i = 0 := (by omega); subst h0; rw [hzw])
              ·
                have hbad : ch.testBit i = true ∧ D 2 w = -6 := hp.elim (fun z => ⟨z.2, by omega⟩) (fun z => absurd z.1 (by omega))
                exact zY.vret rfl ⟨rfl, ⟨fun j => if 6 * β ≤ j ∧ j < 6 * β + 6 then zcs D s ch i (j - 6 * β) else μ (b + 2) j, fun j hj => if_neg hj, fun z => absurd (by have := z.2 i (by omega) hbad.1; rw [hw, Int.toNat_natCast] at this; exact this) (by omega), by rw [hI]; refine zrow_congr (fun j => ?_); rw [show zbx D s ch = -6 from if_neg (fun z => by have := z.1.2 i (by omega) hbad.1; rw [hw, Int.toNat_natCast] at this; omega)]⟩⟩ hR hO dX0_write_120
            refine zY.iload hO dX0_write_87 rfl ?_
            refine zY.iload hO dX0_write_89 rfl ?_
            refine zY.callSN2iD (ct_X10_has hc (by omega)) (by decide) zcal_X10_has zmn_X0_44 (Nat.le_of_ble_eq_true rfl) rfl ⟨Nat.zero_le _, Nat.zero_le _⟩ hO dX0_write_91 ?_
            refine zY.if_eq (tgt := 109) zr_b hO dX0_write_94 (by decide) (fun c94 => ?_) (fun c94 => ?_)
            ·
              replace c94 := zb0.mp c94
              refine zY.iload hO dX0_write_109 rfl ?_
              exact L111 _ (Or.inr ⟨rfl, c94⟩)
            ·
              replace c94 := zb1.mp c94
              refine zY.aload_n hO dX0_write_97 rfl ?_
              refine zY.getR zfl_X0_48 (by decide : 1 < 150) rfl rfl hO dX0_write_98 ?_
              refine zY.iload hO dX0_write_101 rfl ?_
              refine zY.as (b := ((w : Nat) : Int)) (by omega) ?_
              refine zY.callV1iD (ct_atN zrw_10 (j := w) (by omega)) (by decide) zcal_X5_at zml_X0_23 (by decide : 10 < 150) rfl rfl (Nat.le_of_ble_eq_true rfl) rfl ⟨Nat.zero_le _, Nat.zero_le _⟩ hO dX0_write_103 ?_
              refine zY.as (b := D 2 w) (by rw [hI, zrow_ne (by omega), zrow_ne (by omega)]; exact (hS.1 w hw10).2.1) ?_
              refine zY.goto (tgt := 111) hO dX0_write_106 (by decide) ?_
              exact L111 _ (Or.inl ⟨rfl, c94⟩)
        exact L71 0 (by omega) μ2 (-6) (-6) (fun k hk => absurd hk (Nat.not_lt_zero k)) (Or.inl ⟨rfl, rfl, rfl⟩) (by rw [hI]; rfl)
      ·
        have hch : ¬ ch < 2 ^ m := fun z => by have := (zsh_div ch hc m (by omega)).mpr z; rw [← hg] at this; omega
        exact zY.vret rfl ⟨rfl, ⟨fun j => if 6 * β ≤ j ∧ j < 6 * β + 6 then 0 else μ (b + 2) j, fun j hj => if_neg hj, fun z => absurd (by have := z.1; rw [hm] at this; exact this) hch, by rw [hI]; refine zrow_congr (fun j => ?_); rw [show zbx D s ch = -6 from if_neg (fun z => hch (by have := z.1.1; rw [hm] at this; exact this))]⟩⟩ hR hO dX0_write_59
    ·
      refine zY.aload_n hO dX0_write_10 rfl ?_
      refine zY.getR zfl_X0_14 hB.1 hB.2.1 rfl hO dX0_write_11 ?_
      refine zY.iload_n hO dX0_write_14 rfl ?_
      refine zY.bipush hO dX0_write_15 (by decide) ?_
      refine zY.imul hO dX0_write_17 ?_
      refine zY.iload hO dX0_write_18 rfl ?_
      refine zY.iadd hO dX0_write_20 ?_
      refine zY.iconst hO dX0_write_21 ?_
      refine zY.as2 (b := ((6 * β + i : Nat) : Int)) (by omega) ?_
      refine zY.callV2vD (ct_putN hB.2.2.1 (j := 6 * β + i) (by omega)) (by decide) zcal_X5_put zml_X0_31 hB.2.2.1.1 hB.2.2.1.2.1 rfl (Nat.le_of_ble_eq_true rfl) rfl ⟨Nat.zero_le _, Nat.zero_le _⟩ hO dX0_write_22 ?_
      refine zY.iinc5 ((i + 1 : Nat) : Int) (by omega) (zc1_I _) hO dX0_write_25 ?_
      refine zY.goto (tgt := 3) hO dX0_write_28 (by decide) ?_
      exact ih3 (by omega) _ (by rw [hI, zwr_row]; refine zrow_congr (fun j => ?_); (repeat' split) <;> first | rfl | (exfalso; omega))
  exact L3 0 (by omega) μ (by rw [zrow_self]; intro j; rw [if_neg (by omega)])

theorem zsum_nn {f : Nat → Int} (h : ∀ x, 0 ≤ f x) : ∀ k, 0 ≤ zsum f k
  | 0 => by simp [zsum]
  | k + 1 => by have := zsum_nn h k; have := h k; simp only [zsum]; omega
theorem zsum_0 {f : Nat → Int} (h : ∀ x, 0 ≤ f x) : ∀ k, (zsum f k = 0 ↔ ∀ x, x < k → f x = 0)
  | 0 => by simp [zsum]
  | k + 1 => by
    have h1 := zsum_nn h k
    have h2 := h k
    have h3 := zsum_0 h k
    simp only [zsum]
    constructor
    · intro z
      exact lt_s (h3.mp (by omega)) (by omega)
    · intro z
      have := h3.mpr (fun x hx => z x (by omega))
      have := z k (by omega)
      omega
theorem zlk_0 {A F : Nat → Int} : zlk A F = 0 ↔ ∀ x, x < 6 → A x ≤ F x := by
  unfold zlk
  rw [zsum_0 (fun x => by omega)]
  exact ⟨fun h x hx => by have := h x hx; omega, fun h x hx => by have := h x hx; omega⟩
/-- all bills of the sheets as they are -/
def zBal (D : zBk) (b : Nat) (μ : zMem) : Prop := ∀ s, s < 6 → (∀ x, x < 6 → μ (b + 2) (6 * s + x) = znd D s 0 x) ∧ μ (b + 4) s = zbx D s 0
theorem zShp.row {b : Nat} {D : zBk} {μ μ' : zMem} (h : zShp b D μ) (he : ∀ q, b ≤ q → q ≤ b + 16 → μ' q = μ q) : zShp b D μ' := by
  refine ⟨fun w hw => ?_, fun s hs => ?_, ?_, ?_⟩
  · rw [he (b + 8) (by omega) (by omega), he (b + 10) (by omega) (by omega), he (b + 6) (by omega) (by omega)]; exact h.1 w hw
  · rw [he (b + 14) (by omega) (by omega), he (b + 4) (by omega) (by omega), he (b + 2) (by omega) (by omega), he (b + 16) (by omega) (by omega), he (b + 12) (by omega) (by omega)]; exact h.2.1 s hs
  · rw [he (b + 2) (by omega) (by omega)]; exact h.2.2.1
  · rw [he (b + 2) (by omega) (by omega)]; exact h.2.2.2

set_option maxRecDepth 100000 in
set_option maxHeartbeats 4000000 in
theorem ct_X0_writeAll {μ : zMem} {b : Nat} (hB : zBil b 6) {D : zBk} (hW : zWF D) (hS : zShp 1 D μ)  : Cv kX0_writeAll 7 150 zSX [zP b, zP 1] μ (fun μ' => ∃ f g, μ' = zrow (zrow μ (b + 2) f) (b + 4) g ∧ zBal D b μ') := by
  refine Ct.of [some (zP b), some (zP 1), none] rfl (Nat.le_of_ble_eq_true rfl) (by decide +kernel) (fun Γ ad hO hR => ?_)
  refine zY.iconst hO dX0_writeAll_0 ?_
  refine zY.istore2 (zc1_P _) hO dX0_writeAll_1 ?_
  have L2 : ∀ i : Nat, i ≤ 6 → ∀ (μ1 : zMem) (f g : Nat → Int), μ1 = zrow (zrow μ (b + 2) f) (b + 4) g → (∀ s, s < i → (∀ x, x < 6 → f (6 * s + x) = znd D s 0 x) ∧ g s = zbx D s 0) → zY Γ (150, zSX, ad, 0, 0) 2 [some (zP b), some (zP 1), some (zI (i : Int))] [] μ1 := by
    refine zdown (6) (fun i hi_i ih2 => ?_)
    intro μ1 f g hI hJ
    have h20 := hB.2.2.2.2
    refine zY.iload_n hO dX0_writeAll_2 rfl ?_
    refine zY.bipush hO dX0_writeAll_3 (by decide) ?_
    refine zY.icmp_ge (tgt := 22) ⟨by omega, by omega⟩ ⟨by omega, by omega⟩ hO dX0_writeAll_5 (by decide) (fun c5 => ?_) (fun c5 => ?_)
    ·
      exact zY.vret rfl ⟨rfl, ⟨f, g, hI, fun s hs => by
        rw [hI, zrow_eq, zrow_ne (by omega), zrow_eq]
        exact hJ s (by omega)⟩⟩ hR hO dX0_writeAll_22
    ·
      refine zY.aload_n hO dX0_writeAll_8 rfl ?_
      refine zY.iload_n hO dX0_writeAll_9 rfl ?_
      refine zY.aload_n hO dX0_writeAll_10 rfl ?_
      refine zY.iload_n hO dX0_writeAll_11 rfl ?_
      refine zY.iconst hO dX0_writeAll_12 ?_
      refine zY.callV4v (ct_X0_write (ch := 0) hB hW (hS.row (fun q h1 h2 => by rw [hI, zrow_ne (by omega), zrow_ne (by omega)])) (by omega) (by omega) (by omega)) (by decide) zcal_X0_write zml_X0_27 hB.1 hB.2.1 rfl (Nat.le_of_ble_eq_true rfl) rfl ⟨Nat.zero_le _, Nat.zero_le _⟩ hO dX0_writeAll_13 (fun μ2 hp => ?_)
      obtain ⟨f2, hf1, hf2, hμ⟩ := hp
      have hf2 := hf2 (zokc_0 D i)
      rw [hI, zrow_ne (q := b + 4) (q' := b + 2) (by omega), zrow_eq] at hf1
      rw [hI, zrow_eq] at hμ
      refine zY.iinc2 ((i + 1 : Nat) : Int) (by omega) (zc1_P _) hO dX0_writeAll_16 ?_
      refine zY.goto (tgt := 2) hO dX0_writeAll_19 (by decide) ?_
      refine ih2 (by omega) μ2 f2 (fun j => if j = i then zbx D i 0 else g j) ?_ (fun s hs => ?_)
      · rw [hμ]
        funext q j
        by_cases h1 : q = b + 4
        · subst h1
          rw [zrow_eq, zrow_eq]
        · by_cases h2 : q = b + 2
          · subst h2
            rw [zrow_ne h1, zrow_eq, zrow_ne h1, zrow_eq]
          · rw [zrow_ne h1, zrow_ne h2, zrow_ne h1, zrow_ne h2, zrow_ne h1, zrow_ne h2]
      · by_cases hsi : s = i
        · subst hsi
          exact ⟨hf2, if_pos rfl⟩
        · refine ⟨fun x hx => ?_, ?_⟩
          · rw [hf1 _ (by omega)]
            exact (hJ s (by omega)).1 x hx
          · rw [if_neg hsi]
            exact (hJ s (by omega)).2
  exact L2 0 (by omega) μ (μ (b + 2)) (μ (b + 4)) (by rw [zrow_self (q := b + 2) (fun _ => rfl), zrow_self (fun _ => rfl)]) (fun s hs => absurd hs (Nat.not_lt_zero s))

set_option maxRecDepth 100000 in
set_option maxHeartbeats 4000000 in
theorem ct_X7_refill {μ : zMem} {c : Nat} (hC : zStk c)  : Cv kX7_refill 4 150 zSX [zP c] μ (fun μ' => ∃ h, μ' = zrow μ (c + 4) h ∧ ∀ x, x < 6 → h x = μ (c + 2) x) := by
  refine Ct.of [some (zP c)] rfl (Nat.le_of_ble_eq_true rfl) (by decide +kernel) (fun Γ ad hO hR => ?_)
  refine zY.aload_n hO dX7_refill_0 rfl ?_
  refine zY.getR zfl_X7_20 hC.1 hC.2.1 rfl hO dX7_refill_1 ?_
  refine zY.aload_n hO dX7_refill_4 rfl ?_
  refine zY.getR zfl_X7_14 hC.1 hC.2.1 rfl hO dX7_refill_5 ?_
  refine zY.callV1vD (ct_X5_copy hC.2.2.2.1 hC.2.2.1 (by omega)) (by decide) zcal_X5_copy zml_X7_28 hC.2.2.2.1.1 hC.2.2.2.1.2.1 rfl (Nat.le_of_ble_eq_true rfl) rfl ⟨Nat.zero_le _, Nat.zero_le _⟩ hO dX7_refill_8 ?_
  exact zY.vret rfl ⟨rfl, ⟨_, rfl, fun x hx => by rw [if_pos hx, zrat_in hx]⟩⟩ hR hO dX7_refill_11

set_option maxRecDepth 100000 in
set_option maxHeartbeats 4000000 in
theorem ct_X7_load {μ : zMem} {c : Nat} (hC : zStk c)  : Cv kX7_load 5 150 zSX [zP c, zP 1] μ (fun μ' => ∃ g h, μ' = zrow (zrow μ (c + 2) g) (c + 4) h ∧ ∀ x, x < 6 → g x = μ 5 x ∧ h x = μ 5 x) := by
  refine Ct.of [some (zP c), some (zP 1)] rfl (Nat.le_of_ble_eq_true rfl) (by decide +kernel) (fun Γ ad hO hR => ?_)
  refine zY.aload_n hO dX7_load_0 rfl ?_
  refine zY.getR zfl_X7_14 hC.1 hC.2.1 rfl hO dX7_load_1 ?_
  refine zY.aload_n hO dX7_load_4 rfl ?_
  refine zY.getR zfl_X7_23 (by decide : 1 < 150) rfl rfl hO dX7_load_5 ?_
  refine zY.callV1vD (ct_X5_copy hC.2.2.1 zrw_4 (by have := hC.2.2.2.2; omega)) (by decide) zcal_X5_copy zml_X7_28 hC.2.2.1.1 hC.2.2.1.2.1 rfl (Nat.le_of_ble_eq_true rfl) rfl ⟨Nat.zero_le _, Nat.zero_le _⟩ hO dX7_load_8 ?_
  refine zY.aload_n hO dX7_load_11 rfl ?_
  refine zY.callV0v (ct_X7_refill hC) (by decide) zcal_X7_refill zml_X7_32 hC.1 hC.2.1 rfl (Nat.le_of_ble_eq_true rfl) rfl ⟨Nat.zero_le _, Nat.zero_le _⟩ hO dX7_load_12 (fun μ2 hp => ?_)
  obtain ⟨h, h1, h2⟩ := hp
  exact zY.vret rfl ⟨rfl, ⟨_, h, h1, fun x hx => by have h3 := h2 x hx; rw [zrow_eq, if_pos hx, zrat_in hx] at h3; exact ⟨by rw [if_pos hx, zrat_in hx], h3⟩⟩⟩ hR hO dX7_load_15

set_option maxRecDepth 100000 in
set_option maxHeartbeats 4000000 in
theorem ct_X7_whole {μ : zMem} {c : Nat} (hC : zStk c)  : Ci kX7_whole 2 150 zSX [zP c] μ (fun a μ' => a = zsum (μ (c + 2)) 6 ∧ μ' = μ) := by
  refine Ct.of [some (zP c)] rfl (Nat.le_of_ble_eq_true rfl) (by decide +kernel) (fun Γ ad hO hR => ?_)
  refine zY.aload_n hO dX7_whole_0 rfl ?_
  refine zY.getR zfl_X7_14 hC.1 hC.2.1 rfl hO dX7_whole_1 ?_
  refine zY.callV0iD (ct_X5_sum hC.2.2.1) (by decide) zcal_X5_sum zml_X7_35 hC.2.2.1.1 hC.2.2.1.2.1 rfl (Nat.le_of_ble_eq_true rfl) rfl ⟨Nat.zero_le _, Nat.zero_le _⟩ hO dX7_whole_4 ?_
  exact zY.iret rfl ⟨_, rfl, ⟨rfl, rfl⟩⟩ hR hO dX7_whole_7

set_option maxRecDepth 100000 in
set_option maxHeartbeats 4000000 in
theorem ct_X7_lost {μ : zMem} {c : Nat} (hC : zStk c) {x : Nat} (hx : x < 6) : Ci kX7_lost 3 150 zSX [zP c, zI (x : Int)] μ (fun a μ' => a = μ (c + 2) x - μ (c + 4) x ∧ μ' = μ) := by
  refine Ct.of [some (zP c), some (zI (x : Int))] rfl (Nat.le_of_ble_eq_true rfl) (by decide +kernel) (fun Γ ad hO hR => ?_)
  refine zY.aload_n hO dX7_lost_0 rfl ?_
  refine zY.getR zfl_X7_14 hC.1 hC.2.1 rfl hO dX7_lost_1 ?_
  refine zY.iload_n hO dX7_lost_4 rfl ?_
  refine zY.as (b := ((x : Nat) : Int)) (by omega) ?_
  refine zY.callV1iD (ct_atN hC.2.2.1 (j := x) (by omega)) (by decide) zcal_X5_at zml_X7_39 hC.2.2.1.1 hC.2.2.1.2.1 rfl (Nat.le_of_ble_eq_true rfl) rfl ⟨Nat.zero_le _, Nat.zero_le _⟩ hO dX7_lost_5 ?_
  refine zY.aload_n hO dX7_lost_8 rfl ?_
  refine zY.getR zfl_X7_20 hC.1 hC.2.1 rfl hO dX7_lost_9 ?_
  refine zY.iload_n hO dX7_lost_12 rfl ?_
  refine zY.as (b := ((x : Nat) : Int)) (by omega) ?_
  refine zY.callV1iD (ct_atN hC.2.2.2.1 (j := x) (by omega)) (by decide) zcal_X5_at zml_X7_39 hC.2.2.2.1.1 hC.2.2.2.1.2.1 rfl (Nat.le_of_ble_eq_true rfl) rfl ⟨Nat.zero_le _, Nat.zero_le _⟩ hO dX7_lost_13 ?_
  refine zY.isub hO dX7_lost_16 ?_
  exact zY.iret rfl ⟨_, rfl, ⟨rfl, rfl⟩⟩ hR hO dX7_lost_17

set_option maxRecDepth 100000 in
set_option maxHeartbeats 4000000 in
theorem ct_X7_lackOf {μ : zMem} {c : Nat} (hC : zStk c) {b nB : Nat} (hB : zBil b nB) {β x : Nat} {A F : Nat → Int} (hAm : ∀ x, x < 6 → μ (b + 2) (6 * β + x) = A x) (hF : ∀ x, x < 6 → μ (c + 4) x = F x) (hr : ∀ x, x < 6 → -1000 ≤ A x ∧ A x ≤ 1000 ∧ -1000 ≤ F x ∧ F x ≤ 1000) (hβ : β < nB) (hx : x < 6) : Ci kX7_lackOf 4 150 zSX [zP c, zP b, zI (β : Int), zI (x : Int)] μ (fun a μ' => a = max 0 (A x - F x) ∧ μ' = μ) := by
  refine Ct.of [some (zP c), some (zP b), some (zI (β : Int)), some (zI (x : Int))] rfl (Nat.le_of_ble_eq_true rfl) (by decide +kernel) (fun Γ ad hO hR => ?_)
  refine zY.iconst hO dX7_lackOf_0 ?_
  refine zY.aload_n hO dX7_lackOf_1 rfl ?_
  refine zY.iload_n hO dX7_lackOf_2 rfl ?_
  refine zY.iload_n hO dX7_lackOf_3 rfl ?_
  refine zY.callV2iD (ct_X0_amount hB hβ hx) (by decide) zcal_X0_amount zml_X7_43 hB.1 hB.2.1 rfl (Nat.le_of_ble_eq_true rfl) rfl ⟨Nat.zero_le _, Nat.zero_le _⟩ hO dX7_lackOf_4 ?_
  refine zY.as (hAm x hx) ?_
  refine zY.aload_n hO dX7_lackOf_7 rfl ?_
  refine zY.getR zfl_X7_20 hC.1 hC.2.1 rfl hO dX7_lackOf_8 ?_
  refine zY.iload_n hO dX7_lackOf_11 rfl ?_
  refine zY.as (b := ((x : Nat) : Int)) (by omega) ?_
  refine zY.callV1iD (ct_atN hC.2.2.2.1 (j := x) (by omega)) (by decide) zcal_X5_at zml_X7_39 hC.2.2.2.1.1 hC.2.2.2.1.2.1 rfl (Nat.le_of_ble_eq_true rfl) rfl ⟨Nat.zero_le _, Nat.zero_le _⟩ hO dX7_lackOf_12 ?_
  refine zY.as (hF x hx) ?_
  refine zY.isub hO dX7_lackOf_15 ?_
  have hrx := hr x hx
  refine zY.mmax ⟨by omega, by omega⟩ ⟨by omega, by omega⟩ zmx_X7_49 (Nat.le_of_ble_eq_true rfl) (by decide) rfl ⟨Nat.zero_le _, Nat.zero_le _⟩ hO dX7_lackOf_16 ?_
  exact zY.iret rfl ⟨_, rfl, ⟨rfl, rfl⟩⟩ hR hO dX7_lackOf_19

set_option maxRecDepth 100000 in
set_option maxHeartbeats 4000000 in
theorem ct_X7_lacks {μ : zMem} {c : Nat} (hC : zStk c) {b nB : Nat} (hB : zBil b nB) {β : Nat} {A F : Nat → Int} (hAm : ∀ x, x < 6 → μ (b + 2) (6 * β + x) = A x) (hF : ∀ x, x < 6 → μ (c + 4) x = F x) (hr : ∀ x, x < 6 → -1000 ≤ A x ∧ A x ≤ 1000 ∧ -1000 ≤ F x ∧ F x ≤ 1000) (hβ : β < nB) : Ci kX7_lacks 5 150 zSX [zP c, zP b, zI (β : Int)] μ (fun a μ' => a = zlk A F ∧ μ' = μ) := by
  refine Ct.of [some (zP c), some (zP b), some (zI (β : Int)), none, none] rfl (Nat.le_of_ble_eq_true rfl) (by decide +kernel) (fun Γ ad hO hR => ?_)
  refine zY.iconst hO dX7_lacks_0 ?_
  refine zY.istore3 (zc1_I _) hO dX7_lacks_1 ?_
  refine zY.iconst hO dX7_lacks_2 ?_
  refine zY.istore4 (zc1_I _) hO dX7_lacks_3 ?_
  have L5 : ∀ i : Nat, i ≤ 6 → zY Γ (150, zSX, ad, 0, 0) 5 [some (zP c), some (zP b), some (zI (β : Int)), some (zI (zsum (fun x => max 0 (A x - F x)) i)), some (zI (i : Int))] [] μ := by
    refine zdown (6) (fun i hi_i ih5 => ?_)
    refine zY.iload hO dX7_lacks_5 rfl ?_
    refine zY.bipush hO dX7_lacks_7 (by decide) ?_
    refine zY.icmp_ge (tgt := 42) ⟨by omega, by omega⟩ ⟨by omega, by omega⟩ hO dX7_lacks_9 (by decide) (fun c9 => ?_) (fun c9 => ?_)
    ·
      refine zY.iload_n hO dX7_lacks_42 rfl ?_
      exact zY.iret rfl ⟨_, rfl, ⟨by rw [show i = 6 by omega]; rfl, rfl⟩⟩ hR hO dX7_lacks_43
    ·
      refine zY.iload_n hO dX7_lacks_12 rfl ?_
      refine zY.iconst hO dX7_lacks_13 ?_
      refine zY.aload_n hO dX7_lacks_14 rfl ?_
      refine zY.iload_n hO dX7_lacks_15 rfl ?_
      refine zY.iload hO dX7_lacks_16 rfl ?_
      refine zY.callV2iD (ct_X0_amount hB hβ (by omega)) (by decide) zcal_X0_amount zml_X7_43 hB.1 hB.2.1 rfl (Nat.le_of_ble_eq_true rfl) rfl ⟨Nat.zero_le _, Nat.zero_le _⟩ hO dX7_lacks_18 ?_
      refine zY.as (hAm i (by omega)) ?_
      refine zY.aload_n hO dX7_lacks_21 rfl ?_
      refine zY.getR zfl_X7_20 hC.1 hC.2.1 rfl hO dX7_lacks_22 ?_
      refine zY.iload hO dX7_lacks_25 rfl ?_
      refine zY.as (b := ((i : Nat) : Int)) (by omega) ?_
      refine zY.callV1iD (ct_atN hC.2.2.2.1 (j := i) (by omega)) (by decide) zcal_X5_at zml_X7_39 hC.2.2.2.1.1 hC.2.2.2.1.2.1 rfl (Nat.le_of_ble_eq_true rfl) rfl ⟨Nat.zero_le _, Nat.zero_le _⟩ hO dX7_lacks_27 ?_
      refine zY.as (hF i (by omega)) ?_
      refine zY.isub hO dX7_lacks_30 ?_
      have hrx := hr i (by omega)
      refine zY.mmax ⟨by omega, by omega⟩ ⟨by omega, by omega⟩ zmx_X7_49 (Nat.le_of_ble_eq_true rfl) (by decide) rfl ⟨Nat.zero_le _, Nat.zero_le _⟩ hO dX7_lacks_31 ?_
      refine zY.iadd hO dX7_lacks_34 ?_
      refine zY.istore3 (zc1_I _) hO dX7_lacks_35 ?_
      refine zY.iinc4 ((i + 1 : Nat) : Int) (by omega) (zc1_I _) hO dX7_lacks_36 ?_
      refine zY.goto (tgt := 5) hO dX7_lacks_39 (by decide) ?_
      exact ih5 (by omega)
  exact L5 0 (by omega)

set_option maxRecDepth 100000 in
set_option maxHeartbeats 4000000 in
theorem ct_X7_hasFor {μ : zMem} {c : Nat} (hC : zStk c) {b nB : Nat} (hB : zBil b nB) {β γ : Nat} {B : Nat → Int} {A F : Nat → Int} (hAm : ∀ x, x < 6 → μ (b + 2) (6 * β + x) = A x) (hF : ∀ x, x < 6 → μ (c + 4) x = F x) (hr : ∀ x, x < 6 → -1000 ≤ A x ∧ A x ≤ 1000 ∧ -1000 ≤ F x ∧ F x ≤ 1000) (hBm : ∀ x, x < 6 → μ (b + 2) (6 * γ + x) = B x) (hrb : ∀ x, x < 6 → -1000 ≤ B x ∧ B x ≤ 1000) (hβ : β < nB) (hγ : γ < nB) : Ci kX7_hasFor 4 150 zSX [zP c, zP b, zI (β : Int), zI (γ : Int)] μ (fun a μ' => a = (if zlk (fun x => A x + B x) F = 0 then 1 else 0) ∧ μ' = μ) := by
  refine Ct.of [some (zP c), some (zP b), some (zI (β : Int)), some (zI (γ : Int)), none] rfl (Nat.le_of_ble_eq_true rfl) (by decide +kernel) (fun Γ ad hO hR => ?_)
  refine zY.iconst hO dX7_hasFor_0 ?_
  refine zY.istore4 (zc1_I _) hO dX7_hasFor_1 ?_
  have L3 : ∀ i : Nat, i ≤ 6 → (∀ x, x < i → A x + B x ≤ F x) → zY Γ (150, zSX, ad, 0, 0) 3 [some (zP c), some (zP b), some (zI (β : Int)), some (zI (γ : Int)), some (zI (i : Int))] [] μ := by
    refine zdown (6) (fun i hi_i ih3 => ?_)
    intro hI
    refine zY.iload hO dX7_hasFor_3 rfl ?_
    refine zY.bipush hO dX7_hasFor_5 (by decide) ?_
    refine zY.icmp_ge (tgt := 45) ⟨by omega, by omega⟩ ⟨by omega, by omega⟩ hO dX7_hasFor_7 (by decide) (fun c7 => ?_) (fun c7 => ?_)
    ·
      refine zY.iconst hO dX7_hasFor_45 ?_
      exact zY.zret (by omega) rfl ⟨_, rfl, ⟨by rw [if_pos (zlk_0.mpr (fun x hx => hI x (by omega)))], rfl⟩⟩ hR hO dX7_hasFor_46
    ·
      refine zY.aload_n hO dX7_hasFor_10 rfl ?_
      refine zY.iload_n hO dX7_hasFor_11 rfl ?_
      refine zY.iload hO dX7_hasFor_12 rfl ?_
      refine zY.callV2iD (ct_X0_amount hB hβ (by omega)) (by decide) zcal_X0_amount zml_X7_43 hB.1 hB.2.1 rfl (Nat.le_of_ble_eq_true rfl) rfl ⟨Nat.zero_le _, Nat.zero_le _⟩ hO dX7_hasFor_14 ?_
      refine zY.as (hAm i (by omega)) ?_
      refine zY.aload_n hO dX7_hasFor_17 rfl ?_
      refine zY.iload_n hO dX7_hasFor_18 rfl ?_
      refine zY.iload hO dX7_hasFor_19 rfl ?_
      refine zY.callV2iD (ct_X0_amount hB hγ (by omega)) (by decide) zcal_X0_amount zml_X7_43 hB.1 hB.2.1 rfl (Nat.le_of_ble_eq_true rfl) rfl ⟨Nat.zero_le _, Nat.zero_le _⟩ hO dX7_hasFor_21 ?_
      refine zY.as (hBm i (by omega)) ?_
      refine zY.iadd hO dX7_hasFor_24 ?_
      refine zY.aload_n hO dX7_hasFor_25 rfl ?_
      refine zY.getR zfl_X7_20 hC.1 hC.2.1 rfl hO dX7_hasFor_26 ?_
      refine zY.iload hO dX7_hasFor_29 rfl ?_
      refine zY.as (b := ((i : Nat) : Int)) (by omega) ?_
      refine zY.callV1iD (ct_atN hC.2.2.2.1 (j := i) (by omega)) (by decide) zcal_X5_at zml_X7_39 hC.2.2.2.1.1 hC.2.2.2.1.2.1 rfl (Nat.le_of_ble_eq_true rfl) rfl ⟨Nat.zero_le _, Nat.zero_le _⟩ hO dX7_hasFor_31 ?_
      refine zY.as (hF i (by omega)) ?_
      have h1 := hr i (by omega)
      have h2 := hrb i (by omega)
      refine zY.icmp_le (tgt := 39) ⟨by omega, by omega⟩ ⟨by omega, by omega⟩ hO dX7_hasFor_34 (by decide) (fun c34 => ?_) (fun c34 => ?_)
      ·
        refine zY.iinc4 ((i + 1 : Nat) : Int) (by omega) (zc1_I _) hO dX7_hasFor_39 ?_
        refine zY.goto (tgt := 3) hO dX7_hasFor_42 (by decide) ?_
        exact ih3 (by omega) (lt_s hI (by omega))
      ·
        refine zY.iconst hO dX7_hasFor_37 ?_
        exact zY.zret (by omega) rfl ⟨_, rfl, ⟨by rw [if_neg (fun z => by have := zlk_0.mp z i (by omega); omega)], rfl⟩⟩ hR hO dX7_hasFor_38
  exact L3 0 (by omega) (fun x hx => absurd hx (Nat.not_lt_zero x))

set_option maxRecDepth 100000 in
set_option maxHeartbeats 4000000 in
theorem ct_hasForN {μ : zMem} {c : Nat} (hC : zStk c) {b nB : Nat} (hB : zBil b nB) {β : Nat} {A F : Nat → Int} (hAm : ∀ x, x < 6 → μ (b + 2) (6 * β + x) = A x) (hF : ∀ x, x < 6 → μ (c + 4) x = F x) (hr : ∀ x, x < 6 → -1000 ≤ A x ∧ A x ≤ 1000 ∧ -1000 ≤ F x ∧ F x ≤ 1000) (hβ : β < nB) : Ci kX7_hasFor 4 150 zSX [zP c, zP b, zI (β : Int), zI (-6)] μ (fun a μ' => a = (if zlk A F = 0 then 1 else 0) ∧ μ' = μ) := by
  refine Ct.of [some (zP c), some (zP b), some (zI (β : Int)), some (zI (-6)), none] rfl (Nat.le_of_ble_eq_true rfl) (by decide +kernel) (fun Γ ad hO hR => ?_)
  refine zY.iconst hO dX7_hasFor_0 ?_
  refine zY.istore4 (zc1_I _) hO dX7_hasFor_1 ?_
  have L3 : ∀ i : Nat, i ≤ 6 → (∀ x, x < i → A x ≤ F x) → zY Γ (150, zSX, ad, 0, 0) 3 [some (zP c), some (zP b), some (zI (β : Int)), some (zI (-6)), some (zI (i : Int))] [] μ := by
    refine zdown (6) (fun i hi_i ih3 => ?_)
    intro hI
    refine zY.iload hO dX7_hasFor_3 rfl ?_
    refine zY.bipush hO dX7_hasFor_5 (by decide) ?_
    refine zY.icmp_ge (tgt := 45) ⟨by omega, by omega⟩ ⟨by omega, by omega⟩ hO dX7_hasFor_7 (by decide) (fun c7 => ?_) (fun c7 => ?_)
    ·
      refine zY.iconst hO dX7_hasFor_45 ?_
      exact zY.zret (by omega) rfl ⟨_, rfl, ⟨by rw [if_pos (zlk_0.mpr (fun x hx => hI x (by omega)))], rfl⟩⟩ hR hO dX7_hasFor_46
    ·
      refine zY.aload_n hO dX7_hasFor_10 rfl ?_
      refine zY.iload_n hO dX7_hasFor_11 rfl ?_
      refine zY.iload hO dX7_hasFor_12 rfl ?_
      refine zY.callV2iD (ct_X0_amount hB hβ (by omega)) (by decide) zcal_X0_amount zml_X7_43 hB.1 hB.2.1 rfl (Nat.le_of_ble_eq_true rfl) rfl ⟨Nat.zero_le _, Nat.zero_le _⟩ hO dX7_hasFor_14 ?_
      refine zY.as (hAm i (by omega)) ?_
      refine zY.aload_n hO dX7_hasFor_17 rfl ?_
      refine zY.iload_n hO dX7_hasFor_18 rfl ?_
      refine zY.iload hO dX7_hasFor_19 rfl ?_
      refine zY.callV2iD (ct_amountN hB) (by decide) zcal_X0_amount zml_X7_43 hB.1 hB.2.1 rfl (Nat.le_of_ble_eq_true rfl) rfl ⟨Nat.zero_le _, Nat.zero_le _⟩ hO dX7_hasFor_21 ?_
      refine zY.iadd hO dX7_hasFor_24 ?_
      refine zY.aload_n hO dX7_hasFor_25 rfl ?_
      refine zY.getR zfl_X7_20 hC.1 hC.2.1 rfl hO dX7_hasFor_26 ?_
      refine zY.iload hO dX7_hasFor_29 rfl ?_
      refine zY.as (b := ((i : Nat) : Int)) (by omega) ?_
      refine zY.callV1iD (ct_atN hC.2.2.2.1 (j := i) (by omega)) (by decide) zcal_X5_at zml_X7_39 hC.2.2.2.1.1 hC.2.2.2.1.2.1 rfl (Nat.le_of_ble_eq_true rfl) rfl ⟨Nat.zero_le _, Nat.zero_le _⟩ hO dX7_hasFor_31 ?_
      refine zY.as (hF i (by omega)) ?_
      have h1 := hr i (by omega)
      refine zY.icmp_le (tgt := 39) ⟨by omega, by omega⟩ ⟨by omega, by omega⟩ hO dX7_hasFor_34 (by decide) (fun c34 => ?_) (fun c34 => ?_)
      ·
        refine zY.iinc4 ((i + 1 : Nat) : Int) (by omega) (zc1_I _) hO dX7_hasFor_39 ?_
        refine zY.goto (tgt := 3) hO dX7_hasFor_42 (by decide) ?_
        exact ih3 (by omega) (lt_s hI (by omega))
      ·
        refine zY.iconst hO dX7_hasFor_37 ?_
        exact zY.zret (by omega) rfl ⟨_, rfl, ⟨by rw [if_neg (fun z => by have := zlk_0.mp z i (by omega); omega)], rfl⟩⟩ hR hO dX7_hasFor_38
  exact L3 0 (by omega) (fun x hx => absurd hx (Nat.not_lt_zero x))

set_option maxRecDepth 100000 in
set_option maxHeartbeats 4000000 in
theorem ct_X7_breakOne {μ : zMem} {c : Nat} (hC : zStk c) {x : Nat} (hx : x < 6) (hr : zr (μ (c + 4) x)) : Cv kX7_breakOne 4 150 zSX [zP c, zI (x : Int)] μ (fun μ' => μ' = zrow μ (c + 4) (zls (μ (c + 4)) (x : Int))) := by
  refine Ct.of [some (zP c), some (zI (x : Int))] rfl (Nat.le_of_ble_eq_true rfl) (by decide +kernel) (fun Γ ad hO hR => ?_)
  refine zY.aload_n hO dX7_breakOne_0 rfl ?_
  refine zY.getR zfl_X7_20 hC.1 hC.2.1 rfl hO dX7_breakOne_1 ?_
  refine zY.iload_n hO dX7_breakOne_4 rfl ?_
  refine zY.as (b := ((x : Nat) : Int)) (by omega) ?_
  refine zY.callV1iD (ct_atN hC.2.2.2.1 (j := x) (by omega)) (by decide) zcal_X5_at zml_X7_39 hC.2.2.2.1.1 hC.2.2.2.1.2.1 rfl (Nat.le_of_ble_eq_true rfl) rfl ⟨Nat.zero_le _, Nat.zero_le _⟩ hO dX7_breakOne_5 ?_
  refine zY.if_le (tgt := 20) hr hO dX7_breakOne_8 (by decide) (fun c8 => ?_) (fun c8 => ?_)
  ·
    exact zY.vret rfl ⟨rfl, (by first
      | (rw [zrow_self]; intro j; unfold zls; rw [if_neg]; rintro ⟨h1, h2⟩; rw [show j = x by omega] at h2; omega)
      | (rw [zwr_eq_row]; refine zrow_congr (fun j => ?_); unfold zls; by_cases hj : j = x
         · subst hj; rw [if_pos rfl, if_pos ⟨rfl, by omega⟩]; rfl
         · rw [if_neg hj, if_neg (fun z => hj (by omega))]))⟩ hR hO dX7_breakOne_20
  ·
    refine zY.aload_n hO dX7_breakOne_11 rfl ?_
    refine zY.getR zfl_X7_20 hC.1 hC.2.1 rfl hO dX7_breakOne_12 ?_
    refine zY.iload_n hO dX7_breakOne_15 rfl ?_
    refine zY.iconst hO dX7_breakOne_16 ?_
    refine zY.as2 (b := ((x : Nat) : Int)) (by omega) ?_
    refine zY.callV2vD (ct_X5_add hC.2.2.2.1 (j := x) (by omega)) (by decide) zcal_X5_add zml_X7_54 hC.2.2.2.1.1 hC.2.2.2.1.2.1 rfl (Nat.le_of_ble_eq_true rfl) rfl ⟨Nat.zero_le _, Nat.zero_le _⟩ hO dX7_breakOne_17 ?_
    exact zY.vret rfl ⟨rfl, (by first
      | (rw [zrow_self]; intro j; unfold zls; rw [if_neg]; rintro ⟨h1, h2⟩; rw [show j = x by omega] at h2; omega)
      | (rw [zwr_eq_row]; refine zrow_congr (fun j => ?_); unfold zls; by_cases hj : j = x
         · subst hj; rw [if_pos rfl, if_pos ⟨rfl, by omega⟩]; rfl
         · rw [if_neg hj, if_neg (fun z => hj (by omega))]))⟩ hR hO dX7_breakOne_20

set_option maxRecDepth 100000 in
set_option maxHeartbeats 4000000 in
theorem ct_breakOneN {μ : zMem} {c : Nat} (hC : zStk c)  : Cv kX7_breakOne 4 150 zSX [zP c, zI (-6)] μ (fun μ' => μ' = μ) := by
  refine Ct.of [some (zP c), some (zI (-6))] rfl (Nat.le_of_ble_eq_true rfl) (by decide +kernel) (fun Γ ad hO hR => ?_)
  refine zY.aload_n hO dX7_breakOne_0 rfl ?_
  refine zY.getR zfl_X7_20 hC.1 hC.2.1 rfl hO dX7_breakOne_1 ?_
  refine zY.iload_n hO dX7_breakOne_4 rfl ?_
  refine zY.callV1iD (ct_X5_at hC.2.2.2.1 ⟨by omega, by omega⟩) (by decide) zcal_X5_at zml_X7_39 hC.2.2.2.1.1 hC.2.2.2.1.2.1 rfl (Nat.le_of_ble_eq_true rfl) rfl ⟨Nat.zero_le _, Nat.zero_le _⟩ hO dX7_breakOne_5 ?_
  refine zY.as (b := 0) (by unfold zrat; rw [if_neg (by omega)]) ?_
  refine zY.if_le (tgt := 20) ⟨by omega, by omega⟩ hO dX7_breakOne_8 (by decide) (fun c8 => ?_) (fun c8 => ?_)
  ·
    exact zY.vret rfl ⟨rfl, rfl⟩ hR hO dX7_breakOne_20
  ·
    exfalso
    omega

set_option maxRecDepth 100000 in
set_option maxHeartbeats 4000000 in
theorem ct_X7_mendOne {μ : zMem} {c : Nat} (hC : zStk c) {x : Nat} (hx : x < 6) : Cv kX7_mendOne 4 150 zSX [zP c, zI (x : Int)] μ (fun μ' => μ' = zwr μ (c + 4) x (μ (c + 4) x + 1)) := by
  refine Ct.of [some (zP c), some (zI (x : Int))] rfl (Nat.le_of_ble_eq_true rfl) (by decide +kernel) (fun Γ ad hO hR => ?_)
  refine zY.aload_n hO dX7_mendOne_0 rfl ?_
  refine zY.getR zfl_X7_20 hC.1 hC.2.1 rfl hO dX7_mendOne_1 ?_
  refine zY.iload_n hO dX7_mendOne_4 rfl ?_
  refine zY.iconst hO dX7_mendOne_5 ?_
  refine zY.as2 (b := ((x : Nat) : Int)) (by omega) ?_
  refine zY.callV2vD (ct_X5_add hC.2.2.2.1 (j := x) (by omega)) (by decide) zcal_X5_add zml_X7_54 hC.2.2.2.1.1 hC.2.2.2.1.2.1 rfl (Nat.le_of_ble_eq_true rfl) rfl ⟨Nat.zero_le _, Nat.zero_le _⟩ hO dX7_mendOne_6 ?_
  exact zY.vret rfl ⟨rfl, rfl⟩ hR hO dX7_mendOne_9
