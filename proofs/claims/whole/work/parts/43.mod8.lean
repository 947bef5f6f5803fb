set_option maxRecDepth 100000 in
set_option maxHeartbeats 4000000 in
theorem ct_X11_presses {μ : zMem} {D : zBk} {K0 K1 : Option zBk} (hM : zMd D K0 K1 μ)  : Ci kX11_presses 8 150 zSX [zP 127] μ (fun a μ' => a = zA_presses D ∧ zScr μ μ') := by
  refine Ct.of [some (zP 127), none, none, none, none, none] rfl (Nat.le_of_ble_eq_true rfl) (by decide +kernel) (fun Γ ad hO hR => ?_)
  have hn := zN_eq hM.1
  have hpm := hM.2.2.1.2.trans hn.1
  refine zY.aload_n hO dX11_presses_0 rfl ?_
  refine zY.iconst hO dX11_presses_1 ?_
  refine zY.callV1iD (ct_X11_fault hM ⟨by omega, by omega⟩) (by decide) zcal_X11_fault zml_X11_116 (by decide : 127 < 150) rfl rfl (Nat.le_of_ble_eq_true rfl) rfl ⟨Nat.zero_le _, Nat.zero_le _⟩ hO dX11_presses_2 ?_
  have hfn := zflt_n hM.1 3 (by omega) (by omega)
  refine zY.if_lt (tgt := 11) (zflt_b hM.1 3) hO dX11_presses_5 (by decide) (fun c5 => ?_) (fun c5 => ?_)
  ·
    have hz3 : zflt D 3 = -6 := by omega
    obtain ⟨c, hT⟩ := zTwo_of hz3
    have hT1 : 0 < c ∧ c + 1 < zN D ∧ zN D ≤ 7 := ⟨hT.1, hT.2.1, hT.2.2.1⟩
    obtain ⟨rq, hrq⟩ : ∃ rq : Nat, rq = zN D - c - 1 := ⟨_, rfl⟩
    have hc5 : c ≤ 5 := by omega
    have hr5 : rq ≤ 5 := by omega
    refine zY.iconst hO dX11_presses_11 ?_
    refine zY.istore1 (zc1_P _) hO dX11_presses_12 ?_
    have L13 : ∀ i : Nat, i ≤ c → zY Γ (150, zSX, ad, 0, 0) 13 [some (zP 127), some (zI (i : Int)), none, none, none, none] [] μ := by
      refine zdown (c) (fun i hi_i ih13 => ?_)
      refine zY.aload_n hO dX11_presses_13 rfl ?_
      refine zY.getR zfl_X11_34 (by decide : 127 < 150) rfl rfl hO dX11_presses_14 ?_
      refine zY.iload_n hO dX11_presses_17 rfl ?_
      refine zY.iald (i) rfl (by omega) (by decide) (by decide : 136 < 150) rfl hO dX11_presses_18 ?_
      have hd := hM.1.2.2.2.2.2.2.2.2 i (by omega)
      refine zY.as (b := D 9 i) (hM.2.2.1.1 i (by omega)) ?_
      have hdc := hT.2.2.2.1
      have hdi : i ≠ c → D 9 i = 48 + (zord D i : Int) ∧ zord D i < 6 := fun z => ⟨(hT.2.2.2.2 i (by omega) z).1, (hT.2.2.2.2 i (by omega) z).2.1⟩
      refine zY.bipush hO dX11_presses_19 (by decide) ?_
      refine zY.icmp_eq (tgt := 30) ⟨by omega, by omega⟩ ⟨by omega, by omega⟩ hO dX11_presses_21 (by decide) (fun c21 => ?_) (fun c21 => ?_)
      ·
        have hic : c = i := by
          rcases Nat.lt_or_ge i c with hz | hz
          · have := hdi (by omega); omega
          · omega
        subst hic
        clear ih13
        refine zY.aload_n hO dX11_presses_30 rfl ?_
        refine zY.getI zfl_X11_93 (by decide : 127 < 150) rfl rfl hO dX11_presses_31 ?_
        refine zY.as (b := (zN D : Int)) hpm ?_
        refine zY.iload_n hO dX11_presses_34 rfl ?_
        refine zY.isub hO dX11_presses_35 ?_
        refine zY.iconst hO dX11_presses_36 ?_
        refine zY.isub hO dX11_presses_37 ?_
        refine zY.as (b := (rq : Int)) (by omega) ?_
        refine zY.istore2 (zc1_I _) hO dX11_presses_38 ?_
        refine zY.iconst hO dX11_presses_39 ?_
        refine zY.istore3 (zc1_I _) hO dX11_presses_40 ?_
        have L41 : ∀ k : Nat, k ≤ 49 → ∀ sq : Nat → Int, (∀ j, j < k → sq j = -6) → zY Γ (150, zSX, ad, 0, 0) 41 [some (zP 127), some (zI (c : Int)), some (zI (rq : Int)), some (zI (k : Int)), none, none] [] (zrow μ 145 sq) := by
          refine zdown (49) (fun k hi_k ih41 => ?_)
          intro sq hJ
          refine zY.iload_n hO dX11_presses_41 rfl ?_
          refine zY.bipush hO dX11_presses_42 (by decide) ?_
          refine zY.icmp_ge (tgt := 61) ⟨by omega, by omega⟩ ⟨by omega, by omega⟩ hO dX11_presses_44 (by decide) (fun c44 => ?_) (fun c44 => ?_)
          ·
            refine zY.aload_n hO dX11_presses_61 rfl ?_
            refine zY.getR zfl_X11_61 (by decide : 127 < 150) rfl rfl hO dX11_presses_62 ?_
            refine zY.iconst hO dX11_presses_65 ?_
            refine zY.iconst hO dX11_presses_66 ?_
            refine zY.iast (0) rfl (by omega) (by decide) (by decide : 145 < 150) rfl hO dX11_presses_67 ?_
            obtain ⟨μ0, hm0⟩ : ∃ μ0 : zMem, μ0 = zwr (zrow μ 145 sq) 145 0 0 := ⟨_, rfl⟩
            rw [← hm0]
            have hs0 : zScr μ μ0 := by rw [hm0]; exact (zScr.rfl'.row (by decide) (by decide)).wr (by decide) (by decide)
            obtain ⟨s0, hss⟩ : ∃ s0 : Nat → Int, s0 = μ0 145 := ⟨_, rfl⟩
            have hsv : ∀ p, p < 49 → s0 p = if p = 0 then 0 else -6 := fun p hp => by
              rw [hss, hm0]
              by_cases e : p = 0
              · subst e; simp [zwr]
              · simp [zwr, zrow, e]; exact hJ p (by omega)
            have hsq : zsq s0 zs0 := fun p hp => by unfold zs0; exact hsv p hp
            have hsi : zsti s0 := fun p hp => by rw [hsv p hp]; split <;> omega
            clear hJ ih41
            refine zY.iconst hO dX11_presses_68 ?_
            refine zY.istore3 (zc1_I _) hO dX11_presses_69 ?_
            have L70 : ∀ i : Nat, i ≤ c + 1 → ∀ μ1 : zMem, zScr μ μ1 → μ1 145 = zces D c rq i s0 → zY Γ (150, zSX, ad, 0, 0) 70 [some (zP 127), some (zI (c : Int)), some (zI (rq : Int)), some (zI (i : Int)), none, none] [] μ1 := by
              refine zdown (c + 1) (fun i hi_i ih70 => ?_)
              intro μ1 hs1 hm1
              refine zY.iload_n hO dX11_presses_70 rfl ?_
              refine zY.iload_n hO dX11_presses_71 rfl ?_
              refine zY.icmp_gt (tgt := 217) ⟨by omega, by omega⟩ ⟨by omega, by omega⟩ hO dX11_presses_72 (by decide) (fun c72 => ?_) (fun c72 => ?_)
              ·
                refine zY.aload_n hO dX11_presses_217 rfl ?_
                refine zY.getR zfl_X11_61 (by decide : 127 < 150) rfl rfl hO dX11_presses_218 ?_
                refine zY.bipush hO dX11_presses_221 (by decide) ?_
                refine zY.iload_n hO dX11_presses_223 rfl ?_
                refine zY.imul hO dX11_presses_224 ?_
                refine zY.iload_n hO dX11_presses_225 rfl ?_
                refine zY.iadd hO dX11_presses_226 ?_
                refine zY.iald (7 * c + rq) (by omega) (by omega) (by decide) (by decide : 145 < 150) rfl hO dX11_presses_227 ?_
                exact zY.iret rfl ⟨_, rfl, ⟨by unfold zA_presses; rw [if_pos hz3, hT.col, Int.toNat_natCast, ← hrq, hm1, show i = c + 1 by omega]; exact zces_c hsq hc5 hr5 (c + 1) (Nat.le_refl _) _ (by omega), hs1⟩⟩ hR hO dX11_presses_228
              ·
                refine zY.iconst hO dX11_presses_75 ?_
                refine zY.istore4 (zc1_I _) hO dX11_presses_76 ?_
                have L78 : ∀ j : Nat, j ≤ rq + 1 → ∀ μ3 : zMem, zScr μ μ3 → μ3 145 = (zcer D c rq i j (zces D c rq i s0)) → zY Γ (150, zSX, ad, 0, 0) 78 [some (zP 127), some (zI (c : Int)), some (zI (rq : Int)), some (zI (i : Int)), some (zI (j : Int)), none] [] μ3 := by
                  refine zdown (rq + 1) (fun j hi_j ih78 => ?_)
                  intro μ3 hs3 hm3
                  refine zY.iload hO dX11_presses_78 rfl ?_
                  refine zY.iload_n hO dX11_presses_80 rfl ?_
                  refine zY.icmp_gt (tgt := 211) ⟨by omega, by omega⟩ ⟨by omega, by omega⟩ hO dX11_presses_81 (by decide) (fun c81 => ?_) (fun c81 => ?_)
                  ·
                    refine zY.iinc3 _ rfl (zc1_I _) hO dX11_presses_211 ?_
                    refine zY.goto (tgt := 70) hO dX11_presses_214 (by decide) ?_
                    refine zY.none4 ?_
                    exact ih70 (by omega) μ3 hs3 (by rw [hm3, show j = rq + 1 by omega]; rfl)
                  ·
                    have hM3 := hs3.md hM
                    have hst : zsti (zcer D c rq i j (zces D c rq i s0)) := zcer_i (zces_i hsi hc5 hr5 i (by omega)) hc5 hr5 (by omega) j (by omega)
                    have hv0 := hst (7 * i + j) (by omega)
                    refine zY.aload_n hO dX11_presses_84 rfl ?_
                    refine zY.getR zfl_X11_61 (by decide : 127 < 150) rfl rfl hO dX11_presses_85 ?_
                    refine zY.bipush hO dX11_presses_88 (by decide) ?_
                    refine zY.iload_n hO dX11_presses_90 rfl ?_
                    refine zY.imul hO dX11_presses_91 ?_
                    refine zY.iload hO dX11_presses_92 rfl ?_
                    refine zY.iadd hO dX11_presses_94 ?_
                    refine zY.iald (7 * i + j) (by omega) (by omega) (by decide) (by decide : 145 < 150) rfl hO dX11_presses_95 ?_
                    have L205 : ∀ μ4 : zMem, zScr μ μ4 → μ4 145 = zcel D c rq i j (zcer D c rq i j (zces D c rq i s0)) → zY Γ (150, zSX, ad, 0, 0) 205 [some (zP 127), some (zI (c : Int)), some (zI (rq : Int)), some (zI (i : Int)), some (zI (j : Int)), none] [] μ4 := by
                      intro μ4 hs4 hm4
                      refine zY.iinc4 _ rfl (zc1_I _) hO dX11_presses_205 ?_
                      refine zY.goto (tgt := 78) hO dX11_presses_208 (by decide) ?_
                      exact ih78 (by omega) μ4 hs4 hm4
                    refine zY.as (b := (zcer D c rq i j (zces D c rq i s0)) (7 * i + j)) (by rw [hm3]) ?_
                    refine zY.istore5 (zc1_I _) hO dX11_presses_96 ?_
                    refine zY.iload hO dX11_presses_98 rfl ?_
                    refine zY.if_lt (tgt := 205) ⟨by omega, by omega⟩ hO dX11_presses_100 (by decide) (fun c100 => ?_) (fun c100 => ?_)
                    ·
                      have hneg : (zcer D c rq i j (zces D c rq i s0)) (7 * i + j) = -6 := by omega
                      refine zY.none5 ?_
                      exact L205 _ hs3 (by rw [hm3]; unfold zcel; rw [if_pos hneg])
                    ·
                      have hne : ¬ (zcer D c rq i j (zces D c rq i s0)) (7 * i + j) = -6 := by omega
                      have hv : 0 ≤ ((zcer D c rq i j (zces D c rq i s0)) (7 * i + j) + 1) ∧ ((zcer D c rq i j (zces D c rq i s0)) (7 * i + j) + 1) ≤ 7 * i + j + 1 := by omega
                      have L166 : ∀ μ3 : zMem, zScr μ μ3 → μ3 145 = zq2 D c rq i j ((zcer D c rq i j (zces D c rq i s0)) (7 * i + j) + 1) (zq1 D c i j ((zcer D c rq i j (zces D c rq i s0)) (7 * i + j) + 1) (zcer D c rq i j (zces D c rq i s0))) → zY Γ (150, zSX, ad, 0, 0) 166 [some (zP 127), some (zI (c : Int)), some (zI (rq : Int)), some (zI (i : Int)), some (zI (j : Int)), some (zI ((zcer D c rq i j (zces D c rq i s0)) (7 * i + j)))] [] μ3 := by
                        intro μ3 hs3 hm3
                        have hM3 := hs3.md hM
                        refine zY.iload_n hO dX11_presses_166 rfl ?_
                        refine zY.iload_n hO dX11_presses_167 rfl ?_
                        refine zY.icmp_ge (tgt := 205) ⟨by omega, by omega⟩ ⟨by omega, by omega⟩ hO dX11_presses_168 (by decide) (fun c168 => ?_) (fun c168 => ?_)
                        ·
                          refine zY.none5 ?_
                          exact L205 _ hs3 (by rw [hm3]; unfold zcel zq zq3; rw [if_neg hne, if_neg (fun z => by omega)])
                        ·
                          refine zY.iload hO dX11_presses_171 rfl ?_
                          refine zY.iload_n hO dX11_presses_173 rfl ?_
                          refine zY.icmp_ge (tgt := 205) ⟨by omega, by omega⟩ ⟨by omega, by omega⟩ hO dX11_presses_174 (by decide) (fun c174 => ?_) (fun c174 => ?_)
                          ·
                            refine zY.none5 ?_
                            exact L205 _ hs3 (by rw [hm3]; unfold zcel zq zq3; rw [if_neg hne, if_neg (fun z => by omega)])
                          ·
                            refine zY.aload_n hO dX11_presses_177 rfl ?_
                            refine zY.iload_n hO dX11_presses_178 rfl ?_
                            refine zY.iload hO dX11_presses_179 rfl ?_
                            refine zY.iload_n hO dX11_presses_181 rfl ?_
                            refine zY.iconst hO dX11_presses_182 ?_
                            refine zY.iconst hO dX11_presses_183 ?_
                            refine zY.callV5i (ct_X11_canPrint hM3 hT (p1 := i) (p2 := j) (b1 := true) (b2 := true) (by omega) (by omega) (fun z => by first | omega | cases z) (fun z => by first | omega | cases z)) (by decide) zcal_X11_canPrint zml_X11_236 (by decide : 127 < 150) rfl rfl (Nat.le_of_ble_eq_true rfl) rfl ⟨Nat.zero_le _, Nat.zero_le _⟩ hO dX11_presses_184 (fun aq μ4 hq4 => ?_)
                            obtain ⟨rfl, n4q, h4q, hq5⟩ := hq4
                            have hs4 : zScr μ μ4 := by rw [hq5]; exact (hs3.row (by decide) (by decide)).row (by decide) (by decide)
                            have h145 : μ4 145 = μ3 145 := by rw [hq5, zrow_ne (by decide), zrow_ne (by decide)]
                            refine zY.as (b := if zlk (fun x => zn1 D i x + zn2 D c j x) (zlr D c i j) = 0 then 1 else 0) (by rw [zlk_congr (A' := fun x => zn1 D i x + zn2 D c j x) (F' := zlr D c i j) (fun x _ => by simp) (fun _ _ => rfl)]) ?_
                            refine zY.if_eq (tgt := 205) zr_b hO dX11_presses_187 (by decide) (fun c187 => ?_) (fun c187 => ?_)
                            ·
                              replace c187 := zb0.mp c187
                              refine zY.none5 ?_
                              exact L205 _ hs4 (by rw [h145, hm3]; unfold zcel zq zq3; rw [if_neg hne, if_neg (fun z => c187 z.2.2)])
                            ·
                              replace c187 := zb1.mp c187
                              refine zY.aload_n hO dX11_presses_190 rfl ?_
                              refine zY.iload_n hO dX11_presses_191 rfl ?_
                              refine zY.iconst hO dX11_presses_192 ?_
                              refine zY.iadd hO dX11_presses_193 ?_
                              refine zY.iload hO dX11_presses_194 rfl ?_
                              refine zY.iconst hO dX11_presses_196 ?_
                              refine zY.iadd hO dX11_presses_197 ?_
                              refine zY.iload hO dX11_presses_198 rfl ?_
                              refine zY.iconst hO dX11_presses_200 ?_
                              refine zY.iadd hO dX11_presses_201 ?_
                              refine zY.callV3vD (ct_X11_reach (hs4.md hM) (p := 7 * i + j + 8) (by omega) (by omega) ⟨by omega, by omega⟩ (by have hz := (zq2_i (D := D) (zq1_i (D := D) hst hc5 (show i ≤ c by omega) (show j ≤ 5 by omega) hv) hc5 hr5 (show i ≤ c by omega) (show j ≤ rq by omega) hv) (7 * i + j + 8) (by omega); rw [h145, hm3]; exact ⟨by omega, by omega⟩) (by have hz := (zq2_i (D := D) (zq1_i (D := D) hst hc5 (show i ≤ c by omega) (show j ≤ 5 by omega) hv) hc5 hr5 (show i ≤ c by omega) (show j ≤ rq by omega) hv) (7 * i + j + 8) (by omega); rw [h145, hm3]; omega)) (by decide) zcal_X11_reach zml_X11_240 (by decide : 127 < 150) rfl rfl (Nat.le_of_ble_eq_true rfl) rfl ⟨Nat.zero_le _, Nat.zero_le _⟩ hO dX11_presses_202 ?_
                              refine zY.none5 ?_
                              exact L205 _ (hs4.row (by decide) (by decide)) (by rw [zrow_eq, h145, hm3]; unfold zcel zq zq3; rw [if_neg hne, if_pos ⟨by omega, by omega, c187⟩])
                      have L134 : ∀ μ3 : zMem, zScr μ μ3 → μ3 145 = zq1 D c i j ((zcer D c rq i j (zces D c rq i s0)) (7 * i + j) + 1) (zcer D c rq i j (zces D c rq i s0)) → zY Γ (150, zSX, ad, 0, 0) 134 [some (zP 127), some (zI (c : Int)), some (zI (rq : Int)), some (zI (i : Int)), some (zI (j : Int)), some (zI ((zcer D c rq i j (zces D c rq i s0)) (7 * i + j)))] [] μ3 := by
                        intro μ3 hs3 hm3
                        have hM3 := hs3.md hM
                        refine zY.iload hO dX11_presses_134 rfl ?_
                        refine zY.iload_n hO dX11_presses_136 rfl ?_
                        refine zY.icmp_ge (tgt := 166) ⟨by omega, by omega⟩ ⟨by omega, by omega⟩ hO dX11_presses_137 (by decide) (fun c137 => ?_) (fun c137 => ?_)
                        ·
                          exact L166 _ hs3 (by rw [hm3]; unfold zq2; rw [if_neg (fun z => by omega)])
                        ·
                          refine zY.aload_n hO dX11_presses_140 rfl ?_
                          refine zY.iload_n hO dX11_presses_141 rfl ?_
                          refine zY.iload hO dX11_presses_142 rfl ?_
                          refine zY.iload_n hO dX11_presses_144 rfl ?_
                          refine zY.iconst hO dX11_presses_145 ?_
                          refine zY.iconst hO dX11_presses_146 ?_
                          refine zY.callV5i (ct_X11_canPrint hM3 hT (p1 := i) (p2 := j) (b1 := false) (b2 := true) (by omega) (by omega) (fun z => by first | omega | cases z) (fun z => by first | omega | cases z)) (by decide) zcal_X11_canPrint zml_X11_236 (by decide : 127 < 150) rfl rfl (Nat.le_of_ble_eq_true rfl) rfl ⟨Nat.zero_le _, Nat.zero_le _⟩ hO dX11_presses_147 (fun aq μ4 hq4 => ?_)
                          obtain ⟨rfl, n4q, h4q, hq5⟩ := hq4
                          have hs4 : zScr μ μ4 := by rw [hq5]; exact (hs3.row (by decide) (by decide)).row (by decide) (by decide)
                          have h145 : μ4 145 = μ3 145 := by rw [hq5, zrow_ne (by decide), zrow_ne (by decide)]
                          refine zY.as (b := if zlk (zn2 D c j) (zlr D c i j) = 0 then 1 else 0) (by rw [zlk_congr (A' := zn2 D c j) (F' := zlr D c i j) (fun x _ => by simp) (fun _ _ => rfl)]) ?_
                          refine zY.if_eq (tgt := 166) zr_b hO dX11_presses_150 (by decide) (fun c150 => ?_) (fun c150 => ?_)
                          ·
                            replace c150 := zb0.mp c150
                            exact L166 _ hs4 (by rw [h145, hm3]; unfold zq2; rw [if_neg (fun z => c150 z.2)])
                          ·
                            replace c150 := zb1.mp c150
                            refine zY.aload_n hO dX11_presses_153 rfl ?_
                            refine zY.iload_n hO dX11_presses_154 rfl ?_
                            refine zY.iload hO dX11_presses_155 rfl ?_
                            refine zY.iconst hO dX11_presses_157 ?_
                            refine zY.iadd hO dX11_presses_158 ?_
                            refine zY.iload hO dX11_presses_159 rfl ?_
                            refine zY.iconst hO dX11_presses_161 ?_
                            refine zY.iadd hO dX11_presses_162 ?_
                            refine zY.callV3vD (ct_X11_reach (hs4.md hM) (p := 7 * i + j + 1) (by omega) (by omega) ⟨by omega, by omega⟩ (by have hz := (zq1_i (D := D) hst hc5 (show i ≤ c by omega) (show j ≤ 5 by omega) hv) (7 * i + j + 1) (by omega); rw [h145, hm3]; exact ⟨by omega, by omega⟩) (by have hz := (zq1_i (D := D) hst hc5 (show i ≤ c by omega) (show j ≤ 5 by omega) hv) (7 * i + j + 1) (by omega); rw [h145, hm3]; omega)) (by decide) zcal_X11_reach zml_X11_240 (by decide : 127 < 150) rfl rfl (Nat.le_of_ble_eq_true rfl) rfl ⟨Nat.zero_le _, Nat.zero_le _⟩ hO dX11_presses_163 ?_
                            exact L166 _ (hs4.row (by decide) (by decide)) (by rw [zrow_eq, h145, hm3]; unfold zq2; rw [if_pos ⟨by omega, c150⟩])
                      refine zY.iload_n hO dX11_presses_103 rfl ?_
                      refine zY.iload_n hO dX11_presses_104 rfl ?_
                      refine zY.icmp_ge (tgt := 134) ⟨by omega, by omega⟩ ⟨by omega, by omega⟩ hO dX11_presses_105 (by decide) (fun c105 => ?_) (fun c105 => ?_)
                      ·
                        exact L134 _ hs3 (by rw [hm3]; unfold zq1; rw [if_neg (fun z => by omega)])
                      ·
                        refine zY.aload_n hO dX11_presses_108 rfl ?_
                        refine zY.iload_n hO dX11_presses_109 rfl ?_
                        refine zY.iload hO dX11_presses_110 rfl ?_
                        refine zY.iload_n hO dX11_presses_112 rfl ?_
                        refine zY.iconst hO dX11_presses_113 ?_
                        refine zY.iconst hO dX11_presses_114 ?_
                        refine zY.callV5i (ct_X11_canPrint hM3 hT (p1 := i) (p2 := j) (b1 := true) (b2 := false) (by omega) (by omega) (fun z => by first | omega | cases z) (fun z => by first | omega | cases z)) (by decide) zcal_X11_canPrint zml_X11_236 (by decide : 127 < 150) rfl rfl (Nat.le_of_ble_eq_true rfl) rfl ⟨Nat.zero_le _, Nat.zero_le _⟩ hO dX11_presses_115 (fun aq μ4 hq4 => ?_)
                        obtain ⟨rfl, n4q, h4q, hq5⟩ := hq4
                        have hs4 : zScr μ μ4 := by rw [hq5]; exact (hs3.row (by decide) (by decide)).row (by decide) (by decide)
                        have h145 : μ4 145 = μ3 145 := by rw [hq5, zrow_ne (by decide), zrow_ne (by decide)]
                        refine zY.as (b := if zlk (zn1 D i) (zlr D c i j) = 0 then 1 else 0) (by rw [zlk_congr (A' := zn1 D i) (F' := zlr D c i j) (fun x _ => by simp) (fun _ _ => rfl)]) ?_
                        refine zY.if_eq (tgt := 134) zr_b hO dX11_presses_118 (by decide) (fun c118 => ?_) (fun c118 => ?_)
                        ·
                          replace c118 := zb0.mp c118
                          exact L134 _ hs4 (by rw [h145, hm3]; unfold zq1; rw [if_neg (fun z => c118 z.2)])
                        ·
                          replace c118 := zb1.mp c118
                          refine zY.aload_n hO dX11_presses_121 rfl ?_
                          refine zY.iload_n hO dX11_presses_122 rfl ?_
                          refine zY.iconst hO dX11_presses_123 ?_
                          refine zY.iadd hO dX11_presses_124 ?_
                          refine zY.iload hO dX11_presses_125 rfl ?_
                          refine zY.iload hO dX11_presses_127 rfl ?_
                          refine zY.iconst hO dX11_presses_129 ?_
                          refine zY.iadd hO dX11_presses_130 ?_
                          refine zY.callV3vD (ct_X11_reach (hs4.md hM) (p := 7 * i + j + 7) (by omega) (by omega) ⟨by omega, by omega⟩ (by have hz := hst (7 * i + j + 7) (by omega); rw [h145, hm3]; exact ⟨by omega, by omega⟩) (by have hz := hst (7 * i + j + 7) (by omega); rw [h145, hm3]; omega)) (by decide) zcal_X11_reach zml_X11_240 (by decide : 127 < 150) rfl rfl (Nat.le_of_ble_eq_true rfl) rfl ⟨Nat.zero_le _, Nat.zero_le _⟩ hO dX11_presses_131 ?_
                          exact L134 _ (hs4.row (by decide) (by decide)) (by rw [zrow_eq, h145, hm3]; unfold zq1; rw [if_pos ⟨by omega, c118⟩])
                exact L78 0 (by omega) μ1 hs1 hm1
            exact L70 0 (by omega) μ0 hs0 hss.symm
          ·
            refine zY.aload_n hO dX11_presses_47 rfl ?_
            refine zY.getR zfl_X11_61 (by decide : 127 < 150) rfl rfl hO dX11_presses_48 ?_
            refine zY.iload_n hO dX11_presses_51 rfl ?_
            refine zY.bipush hO dX11_presses_52 (by decide) ?_
            refine zY.iast (k) rfl (by omega) (by decide) (by decide : 145 < 150) rfl hO dX11_presses_54 ?_
            refine zY.iinc3 _ rfl (zc1_I _) hO dX11_presses_55 ?_
            refine zY.goto (tgt := 41) hO dX11_presses_58 (by decide) ?_
            have hin := ih41 (by omega) (fun x => if x = k then -6 else sq x) (fun x hx => by by_cases e : x = k; (· rw [if_pos e]); (· rw [if_neg e]; exact hJ x (by omega)))
            rw [← zwr_row] at hin
            exact hin
        have hin := L41 0 (by omega) (μ 145) (fun x h => by omega)
        rw [zrow_self (fun _ => rfl)] at hin
        exact hin
      ·
        have hic : i < c := by
          rcases Nat.lt_or_ge i c with hz | hz
          · exact hz
          · exfalso; have hzc : i = c := by omega
            rw [hzc] at c21; exact c21 hdc
        refine zY.iinc1 _ rfl (zc1_P _) hO dX11_presses_24 ?_
        refine zY.goto (tgt := 13) hO dX11_presses_27 (by decide) ?_
        exact ih13 (by omega)
    exact L13 0 (by omega)
  ·
    refine zY.bipush hO dX11_presses_8 (by decide) ?_
    exact zY.iret rfl ⟨_, rfl, ⟨by unfold zA_presses; rw [if_neg (by omega)], zScr.rfl'⟩⟩ hR hO dX11_presses_10
