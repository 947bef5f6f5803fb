/-! the law's loop -/
set_option maxRecDepth 100000 in
set_option maxHeartbeats 40000000 in
theorem law_loop {Γ : zCx} {ad : Nat → Nat} {b L : Nat} {xs : Nat → Int32} (hO : zok Γ kL_law 40) (hG : zgrw Γ 600000 7302250) (hSc : zSc Γ b L xs) (hadb : ad 1000 = b) (hL : L ≤ 1536) (he : zLe Γ b) : ∀ t : Nat, t ≤ L → ∀ (D : zBk) (K0 K1 : Option zBk) (μ1 : zMem), zRX D K0 K1 μ1 → zCho μ1 → zMd D K0 K1 μ1 → zY Γ (150, zSX, ad, 150, 13277) 18 [some (zP 1000), some (zP 0), some (zP 127), some (zI ((3 * t : Nat) : Int))] [] μ1 := by
  have L18 : ∀ t : Nat, t ≤ L → ∀ (D : zBk) (K0 K1 : Option zBk) (μ1 : zMem), zRX D K0 K1 μ1 → zCho μ1 → zMd D K0 K1 μ1 → zY Γ (150, zSX, ad, 150, 13277) 18 [some (zP 1000), some (zP 0), some (zP 127), some (zI ((3 * t : Nat) : Int))] [] μ1 := by
    refine zdown (L) (fun t hi_t ih18 => ?_)
    intro D K0 K1 μ1 hX hCh hM
    refine zY.iload_n hO dL_law_18 rfl ?_
    refine zY.aload_n hO dL_law_19 rfl ?_
    refine zY.slen hSc hadb hO dL_law_20 ?_
    refine zY.iconst hO dL_law_21 ?_
    refine zY.isub hO dL_law_22 ?_
    refine zY.icmp_gt (tgt := 796) ⟨by omega, by omega⟩ ⟨by omega, by omega⟩ hO dL_law_23 (by decide) (fun c23 => ?_) (fun c23 => ?_)
    ·
      refine zY.iconst hO dL_law_796 ?_
      exact zY.lawret he (by decide) (by decide) hO dL_law_797
    ·
      have htL : 3 * t + 2 < L := by omega
      refine zY.aload_n hO dL_law_26 rfl ?_
      refine zY.iload_n hO dL_law_27 rfl ?_
      refine zY.sld (j := 3 * t) hSc hadb (by omega) (by omega) (by omega) hO dL_law_28 ?_
      refine zY.bipush hO dL_law_29 (by decide) ?_
      obtain ⟨c, hc32, hc⟩ := zand31 (xs (3 * t)).toInt
      refine zY.iand (c := (c : Int)) hc hO dL_law_31 ?_
      by_cases e32_0 : (c : Int) = 0
      ·
        refine zY.tswIn (off := 120) (tgt := 152) ⟨by omega, by omega⟩ (by omega) (by omega) (by rw [e32_0]; rfl) (by decide) hO dL_law_32 ?_
        refine zY.aload_n hO dL_law_152 rfl ?_
        refine zY.aload_n hO dL_law_153 rfl ?_
        refine zY.iload_n hO dL_law_154 rfl ?_
        refine zY.iconst hO dL_law_155 ?_
        refine zY.iadd hO dL_law_156 ?_
        refine zY.sld (j := 3 * t + 1) hSc hadb (by omega) (by omega) (by omega) hO dL_law_157 ?_
        refine zY.callV1i (ct_X10_say hX (zrI (xs (3 * t + 1)))) (by decide) zcal_X10_say zml_L_13 (by decide : 0 < 150) rfl rfl (Nat.le_of_ble_eq_true rfl) rfl (hG.le (c := 150) (s := 13277) (by decide) (by decide)) hO dL_law_158 (fun a1 μ2 hq1 => ?_)
        obtain ⟨rfl, hX2, hS2⟩ := hq1
        have hM2 := zMd_hi hM (fun q hq => hS2 q (Or.inr (by omega)))
        have hCh2 := zCho_of hCh (hS2 108 (Or.inr (by decide)))
        refine zY.aload_n hO dL_law_161 rfl ?_
        refine zY.aload_n hO dL_law_162 rfl ?_
        refine zY.iload_n hO dL_law_163 rfl ?_
        refine zY.iconst hO dL_law_164 ?_
        refine zY.iadd hO dL_law_165 ?_
        refine zY.sld (j := 3 * t + 1) hSc hadb (by omega) (by omega) (by omega) hO dL_law_166 ?_
        refine zY.callV1i (ct_X11_say hM2 (zrI (xs (3 * t + 1)))) (by decide) zcal_X11_say zml_L_17 (by decide : 127 < 150) rfl rfl (Nat.le_of_ble_eq_true rfl) rfl (hG.le (c := 150) (s := 13277) (by decide) (by decide)) hO dL_law_167 (fun a2 μ3 hq2 => ?_)
        obtain ⟨rfl, hM3, hS3⟩ := hq2
        have hX3 := zRX_lo hX2 hS3
        have hCh3 := zCho_of hCh2 (hS3 108 (by decide))
        refine zY.icmp_same (tgt := 790) hO dL_law_170 (by decide) ?_
        refine zY.iinc3 ((3 * (t + 1) : Nat) : Int) (by omega) (zc1_P _) hO dL_law_790 ?_
        refine zY.goto (tgt := 18) hO dL_law_793 (by decide) ?_
        exact ih18 (by omega) (zU_say D (xs (3 * t + 1)).toInt) K0 K1 μ3 hX3 hCh3 hM3
      ·
        by_cases e32_1 : (c : Int) = 1
        ·
          refine zY.tswIn (off := 143) (tgt := 175) ⟨by omega, by omega⟩ (by omega) (by omega) (by rw [e32_1]; rfl) (by decide) hO dL_law_32 ?_
          refine zY.aload_n hO dL_law_175 rfl ?_
          refine zY.callV0i (ct_X10_wipe hX) (by decide) zcal_X10_wipe zml_L_18 (by decide : 0 < 150) rfl rfl (Nat.le_of_ble_eq_true rfl) rfl (hG.le (c := 150) (s := 13277) (by decide) (by decide)) hO dL_law_176 (fun a1 μ2 hq1 => ?_)
          obtain ⟨rfl, hX2, hS2⟩ := hq1
          have hM2 := zMd_hi hM (fun q hq => hS2 q (Or.inr (by omega)))
          have hCh2 := zCho_of hCh (hS2 108 (Or.inr (by decide)))
          refine zY.aload_n hO dL_law_179 rfl ?_
          refine zY.callV0i (ct_X11_wipe hM2) (by decide) zcal_X11_wipe zml_L_22 (by decide : 127 < 150) rfl rfl (Nat.le_of_ble_eq_true rfl) rfl (hG.le (c := 150) (s := 13277) (by decide) (by decide)) hO dL_law_180 (fun a2 μ3 hq2 => ?_)
          obtain ⟨rfl, hM3, hS3⟩ := hq2
          have hX3 := zRX_lo hX2 hS3
          have hCh3 := zCho_of hCh2 (hS3 108 (by decide))
          refine zY.icmp_same (tgt := 790) hO dL_law_183 (by decide) ?_
          refine zY.iinc3 ((3 * (t + 1) : Nat) : Int) (by omega) (zc1_P _) hO dL_law_790 ?_
          refine zY.goto (tgt := 18) hO dL_law_793 (by decide) ?_
          exact ih18 (by omega) (zU_wipe D) K0 K1 μ3 hX3 hCh3 hM3
        ·
          by_cases e32_2 : (c : Int) = 2
          ·
            refine zY.tswIn (off := 156) (tgt := 188) ⟨by omega, by omega⟩ (by omega) (by omega) (by rw [e32_2]; rfl) (by decide) hO dL_law_32 ?_
            refine zY.aload_n hO dL_law_188 rfl ?_
            refine zY.aload_n hO dL_law_189 rfl ?_
            refine zY.iload_n hO dL_law_190 rfl ?_
            refine zY.iconst hO dL_law_191 ?_
            refine zY.iadd hO dL_law_192 ?_
            refine zY.sld (j := 3 * t + 1) hSc hadb (by omega) (by omega) (by omega) hO dL_law_193 ?_
            refine zY.callV1i (ct_X10_fault hX (zrI (xs (3 * t + 1)))) (by decide) zcal_X10_fault zml_L_23 (by decide : 0 < 150) rfl rfl (Nat.le_of_ble_eq_true rfl) rfl (hG.le (c := 150) (s := 13277) (by decide) (by decide)) hO dL_law_194 (fun a1 μ2 hq1 => ?_)
            obtain ⟨rfl, rfl⟩ := hq1
            have hM2 := hM
            refine zY.aload_n hO dL_law_197 rfl ?_
            refine zY.aload_n hO dL_law_198 rfl ?_
            refine zY.iload_n hO dL_law_199 rfl ?_
            refine zY.iconst hO dL_law_200 ?_
            refine zY.iadd hO dL_law_201 ?_
            refine zY.sld (j := 3 * t + 1) hSc hadb (by omega) (by omega) (by omega) hO dL_law_202 ?_
            refine zY.callV1i (ct_X11_fault hM2 (zrI (xs (3 * t + 1)))) (by decide) zcal_X11_fault zml_L_26 (by decide : 127 < 150) rfl rfl (Nat.le_of_ble_eq_true rfl) rfl (hG.le (c := 150) (s := 13277) (by decide) (by decide)) hO dL_law_203 (fun a2 μ3 hq2 => ?_)
            obtain ⟨rfl, rfl⟩ := hq2
            have hM3 := hM
            have hX3 := hX
            have hCh3 := hCh
            refine zY.icmp_same (tgt := 790) hO dL_law_206 (by decide) ?_
            refine zY.iinc3 ((3 * (t + 1) : Nat) : Int) (by omega) (zc1_P _) hO dL_law_790 ?_
            refine zY.goto (tgt := 18) hO dL_law_793 (by decide) ?_
            exact ih18 (by omega) (D) K0 K1 _ hX3 hCh3 hM3
          ·
            by_cases e32_3 : (c : Int) = 3
            ·
              refine zY.tswIn (off := 179) (tgt := 211) ⟨by omega, by omega⟩ (by omega) (by omega) (by rw [e32_3]; rfl) (by decide) hO dL_law_32 ?_
              refine zY.aload_n hO dL_law_211 rfl ?_
              refine zY.aload_n hO dL_law_212 rfl ?_
              refine zY.iload_n hO dL_law_213 rfl ?_
              refine zY.iconst hO dL_law_214 ?_
              refine zY.iadd hO dL_law_215 ?_
              refine zY.sld (j := 3 * t + 1) hSc hadb (by omega) (by omega) (by omega) hO dL_law_216 ?_
              refine zY.callV1i (ct_X10_word hX (zrI (xs (3 * t + 1)))) (by decide) zcal_X10_word zml_L_27 (by decide : 0 < 150) rfl rfl (Nat.le_of_ble_eq_true rfl) rfl (hG.le (c := 150) (s := 13277) (by decide) (by decide)) hO dL_law_217 (fun a1 μ2 hq1 => ?_)
              obtain ⟨rfl, hX2, hS2⟩ := hq1
              have hM2 := zMd_hi hM (fun q hq => hS2 q (Or.inr (by omega)))
              have hCh2 := zCho_of hCh (hS2 108 (Or.inr (by decide)))
              refine zY.aload_n hO dL_law_220 rfl ?_
              refine zY.aload_n hO dL_law_221 rfl ?_
              refine zY.iload_n hO dL_law_222 rfl ?_
              refine zY.iconst hO dL_law_223 ?_
              refine zY.iadd hO dL_law_224 ?_
              refine zY.sld (j := 3 * t + 1) hSc hadb (by omega) (by omega) (by omega) hO dL_law_225 ?_
              refine zY.callV1i (ct_X11_word hM2 (zrI (xs (3 * t + 1)))) (by decide) zcal_X11_word zml_L_30 (by decide : 127 < 150) rfl rfl (Nat.le_of_ble_eq_true rfl) rfl (hG.le (c := 150) (s := 13277) (by decide) (by decide)) hO dL_law_226 (fun a2 μ3 hq2 => ?_)
              obtain ⟨rfl, hM3, hS3⟩ := hq2
              have hX3 := zRX_lo hX2 hS3
              have hCh3 := zCho_of hCh2 (hS3 108 (by decide))
              refine zY.icmp_same (tgt := 790) hO dL_law_229 (by decide) ?_
              refine zY.iinc3 ((3 * (t + 1) : Nat) : Int) (by omega) (zc1_P _) hO dL_law_790 ?_
              refine zY.goto (tgt := 18) hO dL_law_793 (by decide) ?_
              exact ih18 (by omega) (zU_word D (xs (3 * t + 1)).toInt) K0 K1 μ3 hX3 hCh3 hM3
            ·
              by_cases e32_4 : (c : Int) = 4
              ·
                refine zY.tswIn (off := 202) (tgt := 234) ⟨by omega, by omega⟩ (by omega) (by omega) (by rw [e32_4]; rfl) (by decide) hO dL_law_32 ?_
                refine zY.aload_n hO dL_law_234 rfl ?_
                refine zY.aload_n hO dL_law_235 rfl ?_
                refine zY.iload_n hO dL_law_236 rfl ?_
                refine zY.iconst hO dL_law_237 ?_
                refine zY.iadd hO dL_law_238 ?_
                refine zY.sld (j := 3 * t + 1) hSc hadb (by omega) (by omega) (by omega) hO dL_law_239 ?_
                refine zY.callV1i (ct_X10_sheet hX (zrI (xs (3 * t + 1)))) (by decide) zcal_X10_sheet zml_L_31 (by decide : 0 < 150) rfl rfl (Nat.le_of_ble_eq_true rfl) rfl (hG.le (c := 150) (s := 13277) (by decide) (by decide)) hO dL_law_240 (fun a1 μ2 hq1 => ?_)
                obtain ⟨rfl, hX2, hS2⟩ := hq1
                have hM2 := zMd_hi hM (fun q hq => hS2 q (Or.inr (by omega)))
                have hCh2 := zCho_of hCh (hS2 108 (Or.inr (by decide)))
                refine zY.aload_n hO dL_law_243 rfl ?_
                refine zY.aload_n hO dL_law_244 rfl ?_
                refine zY.iload_n hO dL_law_245 rfl ?_
                refine zY.iconst hO dL_law_246 ?_
                refine zY.iadd hO dL_law_247 ?_
                refine zY.sld (j := 3 * t + 1) hSc hadb (by omega) (by omega) (by omega) hO dL_law_248 ?_
                refine zY.callV1i (ct_X11_sheet hM2 (zrI (xs (3 * t + 1)))) (by decide) zcal_X11_sheet zml_L_34 (by decide : 127 < 150) rfl rfl (Nat.le_of_ble_eq_true rfl) rfl (hG.le (c := 150) (s := 13277) (by decide) (by decide)) hO dL_law_249 (fun a2 μ3 hq2 => ?_)
                obtain ⟨rfl, hM3, hS3⟩ := hq2
                have hX3 := zRX_lo hX2 hS3
                have hCh3 := zCho_of hCh2 (hS3 108 (by decide))
                refine zY.icmp_same (tgt := 790) hO dL_law_252 (by decide) ?_
                refine zY.iinc3 ((3 * (t + 1) : Nat) : Int) (by omega) (zc1_P _) hO dL_law_790 ?_
                refine zY.goto (tgt := 18) hO dL_law_793 (by decide) ?_
                exact ih18 (by omega) (zU_sheet D (xs (3 * t + 1)).toInt) K0 K1 μ3 hX3 hCh3 hM3
              ·
                by_cases e32_5 : (c : Int) = 5
                ·
                  refine zY.tswIn (off := 225) (tgt := 257) ⟨by omega, by omega⟩ (by omega) (by omega) (by rw [e32_5]; rfl) (by decide) hO dL_law_32 ?_
                  refine zY.aload_n hO dL_law_257 rfl ?_
                  refine zY.aload_n hO dL_law_258 rfl ?_
                  refine zY.iload_n hO dL_law_259 rfl ?_
                  refine zY.iconst hO dL_law_260 ?_
                  refine zY.iadd hO dL_law_261 ?_
                  refine zY.sld (j := 3 * t + 1) hSc hadb (by omega) (by omega) (by omega) hO dL_law_262 ?_
                  refine zY.callV1i (ct_X10_take hX (zrI (xs (3 * t + 1)))) (by decide) zcal_X10_take zml_L_35 (by decide : 0 < 150) rfl rfl (Nat.le_of_ble_eq_true rfl) rfl (hG.le (c := 150) (s := 13277) (by decide) (by decide)) hO dL_law_263 (fun a1 μ2 hq1 => ?_)
                  obtain ⟨rfl, hX2, hS2⟩ := hq1
                  have hM2 := zMd_hi hM (fun q hq => hS2 q (Or.inr (by omega)))
                  have hCh2 := zCho_of hCh (hS2 108 (Or.inr (by decide)))
                  refine zY.aload_n hO dL_law_266 rfl ?_
                  refine zY.aload_n hO dL_law_267 rfl ?_
                  refine zY.iload_n hO dL_law_268 rfl ?_
                  refine zY.iconst hO dL_law_269 ?_
                  refine zY.iadd hO dL_law_270 ?_
                  refine zY.sld (j := 3 * t + 1) hSc hadb (by omega) (by omega) (by omega) hO dL_law_271 ?_
                  refine zY.callV1i (ct_X11_take hM2 (zrI (xs (3 * t + 1)))) (by decide) zcal_X11_take zml_L_38 (by decide : 127 < 150) rfl rfl (Nat.le_of_ble_eq_true rfl) rfl (hG.le (c := 150) (s := 13277) (by decide) (by decide)) hO dL_law_272 (fun a2 μ3 hq2 => ?_)
                  obtain ⟨rfl, hM3, hS3⟩ := hq2
                  have hX3 := zRX_lo hX2 hS3
                  have hCh3 := zCho_of hCh2 (hS3 108 (by decide))
                  refine zY.icmp_same (tgt := 790) hO dL_law_275 (by decide) ?_
                  refine zY.iinc3 ((3 * (t + 1) : Nat) : Int) (by omega) (zc1_P _) hO dL_law_790 ?_
                  refine zY.goto (tgt := 18) hO dL_law_793 (by decide) ?_
                  exact ih18 (by omega) (zU_take D (xs (3 * t + 1)).toInt) K0 K1 μ3 hX3 hCh3 hM3
                ·
                  by_cases e32_6 : (c : Int) = 6
                  ·
                    refine zY.tswIn (off := 248) (tgt := 280) ⟨by omega, by omega⟩ (by omega) (by omega) (by rw [e32_6]; rfl) (by decide) hO dL_law_32 ?_
                    refine zY.aload_n hO dL_law_280 rfl ?_
                    refine zY.aload_n hO dL_law_281 rfl ?_
                    refine zY.iload_n hO dL_law_282 rfl ?_
                    refine zY.iconst hO dL_law_283 ?_
                    refine zY.iadd hO dL_law_284 ?_
                    refine zY.sld (j := 3 * t + 1) hSc hadb (by omega) (by omega) (by omega) hO dL_law_285 ?_
                    refine zY.aload_n hO dL_law_286 rfl ?_
                    refine zY.iload_n hO dL_law_287 rfl ?_
                    refine zY.iconst hO dL_law_288 ?_
                    refine zY.iadd hO dL_law_289 ?_
                    refine zY.sld (j := 3 * t + 2) hSc hadb (by omega) (by omega) (by omega) hO dL_law_290 ?_
                    refine zY.callV2i (ct_X10_stand hX (zrI (xs (3 * t + 1))) (zrI (xs (3 * t + 2)))) (by decide) zcal_X10_stand zml_L_39 (by decide : 0 < 150) rfl rfl (Nat.le_of_ble_eq_true rfl) rfl (hG.le (c := 150) (s := 13277) (by decide) (by decide)) hO dL_law_291 (fun a1 μ2 hq1 => ?_)
                    obtain ⟨rfl, hX2, hS2⟩ := hq1
                    have hM2 := zMd_hi hM (fun q hq => hS2 q (Or.inr (by omega)))
                    have hCh2 := zCho_of hCh (hS2 108 (Or.inr (by decide)))
                    refine zY.aload_n hO dL_law_294 rfl ?_
                    refine zY.aload_n hO dL_law_295 rfl ?_
                    refine zY.iload_n hO dL_law_296 rfl ?_
                    refine zY.iconst hO dL_law_297 ?_
                    refine zY.iadd hO dL_law_298 ?_
                    refine zY.sld (j := 3 * t + 1) hSc hadb (by omega) (by omega) (by omega) hO dL_law_299 ?_
                    refine zY.aload_n hO dL_law_300 rfl ?_
                    refine zY.iload_n hO dL_law_301 rfl ?_
                    refine zY.iconst hO dL_law_302 ?_
                    refine zY.iadd hO dL_law_303 ?_
                    refine zY.sld (j := 3 * t + 2) hSc hadb (by omega) (by omega) (by omega) hO dL_law_304 ?_
                    refine zY.callV2i (ct_X11_stand hM2 (zrI (xs (3 * t + 1))) (zrI (xs (3 * t + 2)))) (by decide) zcal_X11_stand zml_L_43 (by decide : 127 < 150) rfl rfl (Nat.le_of_ble_eq_true rfl) rfl (hG.le (c := 150) (s := 13277) (by decide) (by decide)) hO dL_law_305 (fun a2 μ3 hq2 => ?_)
                    obtain ⟨rfl, hM3, hS3⟩ := hq2
                    have hX3 := zRX_lo hX2 hS3
                    have hCh3 := zCho_of hCh2 (hS3 108 (by decide))
                    refine zY.icmp_same (tgt := 790) hO dL_law_308 (by decide) ?_
                    refine zY.iinc3 ((3 * (t + 1) : Nat) : Int) (by omega) (zc1_P _) hO dL_law_790 ?_
                    refine zY.goto (tgt := 18) hO dL_law_793 (by decide) ?_
                    exact ih18 (by omega) (zU_stand D (xs (3 * t + 1)).toInt (xs (3 * t + 2)).toInt) K0 K1 μ3 hX3 hCh3 hM3
                  ·
                    by_cases e32_7 : (c : Int) = 7
                    ·
                      refine zY.tswIn (off := 281) (tgt := 313) ⟨by omega, by omega⟩ (by omega) (by omega) (by rw [e32_7]; rfl) (by decide) hO dL_law_32 ?_
                      refine zY.aload_n hO dL_law_313 rfl ?_
                      refine zY.aload_n hO dL_law_314 rfl ?_
                      refine zY.iload_n hO dL_law_315 rfl ?_
                      refine zY.iconst hO dL_law_316 ?_
                      refine zY.iadd hO dL_law_317 ?_
                      refine zY.sld (j := 3 * t + 1) hSc hadb (by omega) (by omega) (by omega) hO dL_law_318 ?_
                      refine zY.aload_n hO dL_law_319 rfl ?_
                      refine zY.iload_n hO dL_law_320 rfl ?_
                      refine zY.iconst hO dL_law_321 ?_
                      refine zY.iadd hO dL_law_322 ?_
                      refine zY.sld (j := 3 * t + 2) hSc hadb (by omega) (by omega) (by omega) hO dL_law_323 ?_
                      refine zY.callV2i (ct_X10_lay hX (zrI (xs (3 * t + 1))) (zrI (xs (3 * t + 2)))) (by decide) zcal_X10_lay zml_L_44 (by decide : 0 < 150) rfl rfl (Nat.le_of_ble_eq_true rfl) rfl (hG.le (c := 150) (s := 13277) (by decide) (by decide)) hO dL_law_324 (fun a1 μ2 hq1 => ?_)
                      obtain ⟨rfl, hX2, hS2⟩ := hq1
                      have hM2 := zMd_hi hM (fun q hq => hS2 q (Or.inr (by omega)))
                      have hCh2 := zCho_of hCh (hS2 108 (Or.inr (by decide)))
                      refine zY.aload_n hO dL_law_327 rfl ?_
                      refine zY.aload_n hO dL_law_328 rfl ?_
                      refine zY.iload_n hO dL_law_329 rfl ?_
                      refine zY.iconst hO dL_law_330 ?_
                      refine zY.iadd hO dL_law_331 ?_
                      refine zY.sld (j := 3 * t + 1) hSc hadb (by omega) (by omega) (by omega) hO dL_law_332 ?_
                      refine zY.aload_n hO dL_law_333 rfl ?_
                      refine zY.iload_n hO dL_law_334 rfl ?_
                      refine zY.iconst hO dL_law_335 ?_
                      refine zY.iadd hO dL_law_336 ?_
                      refine zY.sld (j := 3 * t + 2) hSc hadb (by omega) (by omega) (by omega) hO dL_law_337 ?_
                      refine zY.callV2i (ct_X11_lay hM2 (zrI (xs (3 * t + 1))) (zrI (xs (3 * t + 2)))) (by decide) zcal_X11_lay zml_L_47 (by decide : 127 < 150) rfl rfl (Nat.le_of_ble_eq_true rfl) rfl (hG.le (c := 150) (s := 13277) (by decide) (by decide)) hO dL_law_338 (fun a2 μ3 hq2 => ?_)
                      obtain ⟨rfl, hM3, hS3⟩ := hq2
                      have hX3 := zRX_lo hX2 hS3
                      have hCh3 := zCho_of hCh2 (hS3 108 (by decide))
                      refine zY.icmp_same (tgt := 790) hO dL_law_341 (by decide) ?_
                      refine zY.iinc3 ((3 * (t + 1) : Nat) : Int) (by omega) (zc1_P _) hO dL_law_790 ?_
                      refine zY.goto (tgt := 18) hO dL_law_793 (by decide) ?_
                      exact ih18 (by omega) (zU_lay D (xs (3 * t + 1)).toInt (xs (3 * t + 2)).toInt) K0 K1 μ3 hX3 hCh3 hM3
                    ·
                      by_cases e32_8 : (c : Int) = 8
                      ·
                        refine zY.tswIn (off := 314) (tgt := 346) ⟨by omega, by omega⟩ (by omega) (by omega) (by rw [e32_8]; rfl) (by decide) hO dL_law_32 ?_
                        refine zY.aload_n hO dL_law_346 rfl ?_
                        refine zY.aload_n hO dL_law_347 rfl ?_
                        refine zY.iload_n hO dL_law_348 rfl ?_
                        refine zY.iconst hO dL_law_349 ?_
                        refine zY.iadd hO dL_law_350 ?_
                        refine zY.sld (j := 3 * t + 1) hSc hadb (by omega) (by omega) (by omega) hO dL_law_351 ?_
                        refine zY.aload_n hO dL_law_352 rfl ?_
                        refine zY.iload_n hO dL_law_353 rfl ?_
                        refine zY.iconst hO dL_law_354 ?_
                        refine zY.iadd hO dL_law_355 ?_
                        refine zY.sld (j := 3 * t + 2) hSc hadb (by omega) (by omega) (by omega) hO dL_law_356 ?_
                        refine zY.callV2i (ct_X10_set hX (zrI (xs (3 * t + 1))) (zrI (xs (3 * t + 2)))) (by decide) zcal_X10_set zml_L_48 (by decide : 0 < 150) rfl rfl (Nat.le_of_ble_eq_true rfl) rfl (hG.le (c := 150) (s := 13277) (by decide) (by decide)) hO dL_law_357 (fun a1 μ2 hq1 => ?_)
                        obtain ⟨rfl, hX2, hS2⟩ := hq1
                        have hM2 := zMd_hi hM (fun q hq => hS2 q (Or.inr (by omega)))
                        have hCh2 := zCho_of hCh (hS2 108 (Or.inr (by decide)))
                        refine zY.aload_n hO dL_law_360 rfl ?_
                        refine zY.aload_n hO dL_law_361 rfl ?_
                        refine zY.iload_n hO dL_law_362 rfl ?_
                        refine zY.iconst hO dL_law_363 ?_
                        refine zY.iadd hO dL_law_364 ?_
                        refine zY.sld (j := 3 * t + 1) hSc hadb (by omega) (by omega) (by omega) hO dL_law_365 ?_
                        refine zY.aload_n hO dL_law_366 rfl ?_
                        refine zY.iload_n hO dL_law_367 rfl ?_
                        refine zY.iconst hO dL_law_368 ?_
                        refine zY.iadd hO dL_law_369 ?_
                        refine zY.sld (j := 3 * t + 2) hSc hadb (by omega) (by omega) (by omega) hO dL_law_370 ?_
                        refine zY.callV2i (ct_X11_set hM2 (zrI (xs (3 * t + 1))) (zrI (xs (3 * t + 2)))) (by decide) zcal_X11_set zml_L_51 (by decide : 127 < 150) rfl rfl (Nat.le_of_ble_eq_true rfl) rfl (hG.le (c := 150) (s := 13277) (by decide) (by decide)) hO dL_law_371 (fun a2 μ3 hq2 => ?_)
                        obtain ⟨rfl, hM3, hS3⟩ := hq2
                        have hX3 := zRX_lo hX2 hS3
                        have hCh3 := zCho_of hCh2 (hS3 108 (by decide))
                        refine zY.icmp_same (tgt := 790) hO dL_law_374 (by decide) ?_
                        refine zY.iinc3 ((3 * (t + 1) : Nat) : Int) (by omega) (zc1_P _) hO dL_law_790 ?_
                        refine zY.goto (tgt := 18) hO dL_law_793 (by decide) ?_
                        exact ih18 (by omega) (zU_set D (xs (3 * t + 1)).toInt (xs (3 * t + 2)).toInt) K0 K1 μ3 hX3 hCh3 hM3
                      ·
                        by_cases e32_9 : (c : Int) = 9
                        ·
                          refine zY.tswIn (off := 347) (tgt := 379) ⟨by omega, by omega⟩ (by omega) (by omega) (by rw [e32_9]; rfl) (by decide) hO dL_law_32 ?_
                          refine zY.aload_n hO dL_law_379 rfl ?_
                          refine zY.aload_n hO dL_law_380 rfl ?_
                          refine zY.iload_n hO dL_law_381 rfl ?_
                          refine zY.iconst hO dL_law_382 ?_
                          refine zY.iadd hO dL_law_383 ?_
                          refine zY.sld (j := 3 * t + 1) hSc hadb (by omega) (by omega) (by omega) hO dL_law_384 ?_
                          refine zY.aload_n hO dL_law_385 rfl ?_
                          refine zY.iload_n hO dL_law_386 rfl ?_
                          refine zY.iconst hO dL_law_387 ?_
                          refine zY.iadd hO dL_law_388 ?_
                          refine zY.sld (j := 3 * t + 2) hSc hadb (by omega) (by omega) (by omega) hO dL_law_389 ?_
                          refine zY.callV2i (ct_X10_needs hX (zrI (xs (3 * t + 1))) (zrI (xs (3 * t + 2)))) (by decide) zcal_X10_needs zml_L_52 (by decide : 0 < 150) rfl rfl (Nat.le_of_ble_eq_true rfl) rfl (hG.le (c := 150) (s := 13277) (by decide) (by decide)) hO dL_law_390 (fun a1 μ2 hq1 => ?_)
                          obtain ⟨rfl, hS2⟩ := hq1
                          have hM2 := zMd_hi hM (fun q hq => hS2 q (Or.inr (by omega)))
                          have hX2 := hS2.rx hX (by decide)
                          have hCh2 := zCho_of hCh (hS2 108 (by decide))
                          refine zY.aload_n hO dL_law_393 rfl ?_
                          refine zY.aload_n hO dL_law_394 rfl ?_
                          refine zY.iload_n hO dL_law_395 rfl ?_
                          refine zY.iconst hO dL_law_396 ?_
                          refine zY.iadd hO dL_law_397 ?_
                          refine zY.sld (j := 3 * t + 1) hSc hadb (by omega) (by omega) (by omega) hO dL_law_398 ?_
                          refine zY.aload_n hO dL_law_399 rfl ?_
                          refine zY.iload_n hO dL_law_400 rfl ?_
                          refine zY.iconst hO dL_law_401 ?_
                          refine zY.iadd hO dL_law_402 ?_
                          refine zY.sld (j := 3 * t + 2) hSc hadb (by omega) (by omega) (by omega) hO dL_law_403 ?_
                          refine zY.callV2i (ct_X11_needs hM2 (zrI (xs (3 * t + 1))) (zrI (xs (3 * t + 2)))) (by decide) zcal_X11_needs zml_L_55 (by decide : 127 < 150) rfl rfl (Nat.le_of_ble_eq_true rfl) rfl (hG.le (c := 150) (s := 13277) (by decide) (by decide)) hO dL_law_404 (fun a2 μ3 hq2 => ?_)
                          obtain ⟨rfl, hS3⟩ := hq2
                          have hM3 := hS3.md hM2
                          have hX3 := zRX_lo hX2 hS3.lo
                          have hCh3 := zCho_of hCh2 (hS3.lo 108 (by decide))
                          refine zY.icmp_same (tgt := 790) hO dL_law_407 (by decide) ?_
                          refine zY.iinc3 ((3 * (t + 1) : Nat) : Int) (by omega) (zc1_P _) hO dL_law_790 ?_
                          refine zY.goto (tgt := 18) hO dL_law_793 (by decide) ?_
                          exact ih18 (by omega) (D) K0 K1 μ3 hX3 hCh3 hM3
                        ·
                          by_cases e32_10 : (c : Int) = 10
                          ·
                            refine zY.tswIn (off := 380) (tgt := 412) ⟨by omega, by omega⟩ (by omega) (by omega) (by rw [e32_10]; rfl) (by decide) hO dL_law_32 ?_
                            refine zY.aload_n hO dL_law_412 rfl ?_
                            refine zY.aload_n hO dL_law_413 rfl ?_
                            refine zY.iload_n hO dL_law_414 rfl ?_
                            refine zY.iconst hO dL_law_415 ?_
                            refine zY.iadd hO dL_law_416 ?_
                            refine zY.sld (j := 3 * t + 1) hSc hadb (by omega) (by omega) (by omega) hO dL_law_417 ?_
                            refine zY.callV1i (ct_X10_judge hX (zrI (xs (3 * t + 1)))) (by decide) zcal_X10_judge zml_L_56 (by decide : 0 < 150) rfl rfl (Nat.le_of_ble_eq_true rfl) rfl (hG.le (c := 150) (s := 13277) (by decide) (by decide)) hO dL_law_418 (fun a1 μ2 hq1 => ?_)
                            obtain ⟨rfl, hS2⟩ := hq1
                            have hM2 := zMd_hi hM (fun q hq => hS2 q (Or.inr (by omega)))
                            have hX2 := hS2.rx hX (by decide)
                            have hCh2 := zCho_of hCh (hS2 108 (by decide))
                            refine zY.aload_n hO dL_law_421 rfl ?_
                            refine zY.aload_n hO dL_law_422 rfl ?_
                            refine zY.iload_n hO dL_law_423 rfl ?_
                            refine zY.iconst hO dL_law_424 ?_
                            refine zY.iadd hO dL_law_425 ?_
                            refine zY.sld (j := 3 * t + 1) hSc hadb (by omega) (by omega) (by omega) hO dL_law_426 ?_
                            refine zY.callV1i (ct_X11_judge hM2 (zrI (xs (3 * t + 1)))) (by decide) zcal_X11_judge zml_L_59 (by decide : 127 < 150) rfl rfl (Nat.le_of_ble_eq_true rfl) rfl (hG.le (c := 150) (s := 13277) (by decide) (by decide)) hO dL_law_427 (fun a2 μ3 hq2 => ?_)
                            obtain ⟨rfl, hS3⟩ := hq2
                            have hM3 := hS3.md hM2
                            have hX3 := zRX_lo hX2 hS3.lo
                            have hCh3 := zCho_of hCh2 (hS3.lo 108 (by decide))
                            refine zY.icmp_same (tgt := 790) hO dL_law_430 (by decide) ?_
                            refine zY.iinc3 ((3 * (t + 1) : Nat) : Int) (by omega) (zc1_P _) hO dL_law_790 ?_
                            refine zY.goto (tgt := 18) hO dL_law_793 (by decide) ?_
                            exact ih18 (by omega) (D) K0 K1 μ3 hX3 hCh3 hM3
                          ·
                            by_cases e32_11 : (c : Int) = 11
                            ·
                              refine zY.tswIn (off := 403) (tgt := 435) ⟨by omega, by omega⟩ (by omega) (by omega) (by rw [e32_11]; rfl) (by decide) hO dL_law_32 ?_
                              refine zY.aload_n hO dL_law_435 rfl ?_
                              refine zY.callV0i (ct_X10_orders hX) (by decide) zcal_X10_orders zml_L_60 (by decide : 0 < 150) rfl rfl (Nat.le_of_ble_eq_true rfl) rfl (hG.le (c := 150) (s := 13277) (by decide) (by decide)) hO dL_law_436 (fun a1 μ2 hq1 => ?_)
                              obtain ⟨rfl, hS2⟩ := hq1
                              have hM2 := zMd_hi hM (fun q hq => hS2 q (Or.inr (by omega)))
                              have hX2 := hS2.rx hX (by decide)
                              have hCh2 := zCho_of hCh (hS2 108 (by decide))
                              refine zY.aload_n hO dL_law_439 rfl ?_
                              refine zY.callV0i (ct_X11_orders hM2) (by decide) zcal_X11_orders zml_L_63 (by decide : 127 < 150) rfl rfl (Nat.le_of_ble_eq_true rfl) rfl (hG.le (c := 150) (s := 13277) (by decide) (by decide)) hO dL_law_440 (fun a2 μ3 hq2 => ?_)
                              obtain ⟨rfl, hS3⟩ := hq2
                              have hM3 := hS3.md hM2
                              have hX3 := zRX_lo hX2 hS3.lo
                              have hCh3 := zCho_of hCh2 (hS3.lo 108 (by decide))
                              refine zY.icmp_same (tgt := 790) hO dL_law_443 (by decide) ?_
                              refine zY.iinc3 ((3 * (t + 1) : Nat) : Int) (by omega) (zc1_P _) hO dL_law_790 ?_
                              refine zY.goto (tgt := 18) hO dL_law_793 (by decide) ?_
                              exact ih18 (by omega) (D) K0 K1 μ3 hX3 hCh3 hM3
                            ·
                              by_cases e32_12 : (c : Int) = 12
                              ·
                                refine zY.tswIn (off := 416) (tgt := 448) ⟨by omega, by omega⟩ (by omega) (by omega) (by rw [e32_12]; rfl) (by decide) hO dL_law_32 ?_
                                refine zY.aload_n hO dL_law_448 rfl ?_
                                refine zY.aload_n hO dL_law_449 rfl ?_
                                refine zY.iload_n hO dL_law_450 rfl ?_
                                refine zY.iconst hO dL_law_451 ?_
                                refine zY.iadd hO dL_law_452 ?_
                                refine zY.sld (j := 3 * t + 1) hSc hadb (by omega) (by omega) (by omega) hO dL_law_453 ?_
                                refine zY.callV1i (ct_X10_first hX (zrI (xs (3 * t + 1)))) (by decide) zcal_X10_first zml_L_64 (by decide : 0 < 150) rfl rfl (Nat.le_of_ble_eq_true rfl) rfl (hG.le (c := 150) (s := 13277) (by decide) (by decide)) hO dL_law_454 (fun a1 μ2 hq1 => ?_)
                                obtain ⟨rfl, hS2⟩ := hq1
                                have hM2 := zMd_hi hM (fun q hq => hS2 q (Or.inr (by omega)))
                                have hX2 := hS2.rx hX (by decide)
                                have hCh2 := zCho_of hCh (hS2 108 (by decide))
                                refine zY.aload_n hO dL_law_457 rfl ?_
                                refine zY.aload_n hO dL_law_458 rfl ?_
                                refine zY.iload_n hO dL_law_459 rfl ?_
                                refine zY.iconst hO dL_law_460 ?_
                                refine zY.iadd hO dL_law_461 ?_
                                refine zY.sld (j := 3 * t + 1) hSc hadb (by omega) (by omega) (by omega) hO dL_law_462 ?_
                                refine zY.callV1i (ct_X11_first hM2 (zrI (xs (3 * t + 1)))) (by decide) zcal_X11_first zml_L_67 (by decide : 127 < 150) rfl rfl (Nat.le_of_ble_eq_true rfl) rfl (hG.le (c := 150) (s := 13277) (by decide) (by decide)) hO dL_law_463 (fun a2 μ3 hq2 => ?_)
                                obtain ⟨rfl, hS3⟩ := hq2
                                have hM3 := hS3.md hM2
                                have hX3 := zRX_lo hX2 hS3.lo
                                have hCh3 := zCho_of hCh2 (hS3.lo 108 (by decide))
                                refine zY.icmp_same (tgt := 790) hO dL_law_466 (by decide) ?_
                                refine zY.iinc3 ((3 * (t + 1) : Nat) : Int) (by omega) (zc1_P _) hO dL_law_790 ?_
                                refine zY.goto (tgt := 18) hO dL_law_793 (by decide) ?_
                                exact ih18 (by omega) (D) K0 K1 μ3 hX3 hCh3 hM3
                              ·
                                by_cases e32_13 : (c : Int) = 13
                                ·
                                  refine zY.tswIn (off := 439) (tgt := 471) ⟨by omega, by omega⟩ (by omega) (by omega) (by rw [e32_13]; rfl) (by decide) hO dL_law_32 ?_
                                  refine zY.aload_n hO dL_law_471 rfl ?_
                                  refine zY.aload_n hO dL_law_472 rfl ?_
                                  refine zY.iload_n hO dL_law_473 rfl ?_
                                  refine zY.iconst hO dL_law_474 ?_
                                  refine zY.iadd hO dL_law_475 ?_
                                  refine zY.sld (j := 3 * t + 1) hSc hadb (by omega) (by omega) (by omega) hO dL_law_476 ?_
                                  refine zY.callV1i (ct_X10_most hX (zrI (xs (3 * t + 1)))) (by decide) zcal_X10_most zml_L_68 (by decide : 0 < 150) rfl rfl (Nat.le_of_ble_eq_true rfl) rfl (hG.le (c := 150) (s := 13277) (by decide) (by decide)) hO dL_law_477 (fun a1 μ2 hq1 => ?_)
                                  obtain ⟨rfl, hS2⟩ := hq1
                                  have hM2 := zMd_hi hM (fun q hq => hS2 q (Or.inr (by omega)))
                                  have hX2 := hS2.rx hX (by decide)
                                  have hCh2 := zCho_of hCh (hS2 108 (by decide))
                                  refine zY.aload_n hO dL_law_480 rfl ?_
                                  refine zY.aload_n hO dL_law_481 rfl ?_
                                  refine zY.iload_n hO dL_law_482 rfl ?_
                                  refine zY.iconst hO dL_law_483 ?_
                                  refine zY.iadd hO dL_law_484 ?_
                                  refine zY.sld (j := 3 * t + 1) hSc hadb (by omega) (by omega) (by omega) hO dL_law_485 ?_
                                  refine zY.callV1i (ct_X11_most hM2 (zrI (xs (3 * t + 1)))) (by decide) zcal_X11_most zml_L_71 (by decide : 127 < 150) rfl rfl (Nat.le_of_ble_eq_true rfl) rfl (hG.le (c := 150) (s := 13277) (by decide) (by decide)) hO dL_law_486 (fun a2 μ3 hq2 => ?_)
                                  obtain ⟨rfl, hS3⟩ := hq2
                                  have hM3 := hS3.md hM2
                                  have hX3 := zRX_lo hX2 hS3.lo
                                  have hCh3 := zCho_of hCh2 (hS3.lo 108 (by decide))
                                  refine zY.icmp_same (tgt := 790) hO dL_law_489 (by decide) ?_
                                  refine zY.iinc3 ((3 * (t + 1) : Nat) : Int) (by omega) (zc1_P _) hO dL_law_790 ?_
                                  refine zY.goto (tgt := 18) hO dL_law_793 (by decide) ?_
                                  exact ih18 (by omega) (D) K0 K1 μ3 hX3 hCh3 hM3
                                ·
                                  by_cases e32_14 : (c : Int) = 14
                                  ·
                                    refine zY.tswIn (off := 462) (tgt := 494) ⟨by omega, by omega⟩ (by omega) (by omega) (by rw [e32_14]; rfl) (by decide) hO dL_law_32 ?_
                                    refine zY.aload_n hO dL_law_494 rfl ?_
                                    refine zY.aload_n hO dL_law_495 rfl ?_
                                    refine zY.iload_n hO dL_law_496 rfl ?_
                                    refine zY.iconst hO dL_law_497 ?_
                                    refine zY.iadd hO dL_law_498 ?_
                                    refine zY.sld (j := 3 * t + 1) hSc hadb (by omega) (by omega) (by omega) hO dL_law_499 ?_
                                    refine zY.callV1i (ct_X10_changes hX hCh (zrI (xs (3 * t + 1)))) (by decide) zcal_X10_changes zml_L_72 (by decide : 0 < 150) rfl rfl (Nat.le_of_ble_eq_true rfl) rfl (hG.le (c := 150) (s := 13277) (by decide) (by decide)) hO dL_law_500 (fun a1 μ2 hq1 => ?_)
                                    obtain ⟨rfl, hCh2, hS2⟩ := hq1
                                    have hM2 := zMd_hi hM (fun q hq => hS2 q (Or.inr (by omega)))
                                    have hX2 := hS2.rx hX (by decide)
                                    refine zY.aload_n hO dL_law_503 rfl ?_
                                    refine zY.aload_n hO dL_law_504 rfl ?_
                                    refine zY.iload_n hO dL_law_505 rfl ?_
                                    refine zY.iconst hO dL_law_506 ?_
                                    refine zY.iadd hO dL_law_507 ?_
                                    refine zY.sld (j := 3 * t + 1) hSc hadb (by omega) (by omega) (by omega) hO dL_law_508 ?_
                                    refine zY.callV1i (ct_X11_changes hM2 (zrI (xs (3 * t + 1)))) (by decide) zcal_X11_changes zml_L_75 (by decide : 127 < 150) rfl rfl (Nat.le_of_ble_eq_true rfl) rfl (hG.le (c := 150) (s := 13277) (by decide) (by decide)) hO dL_law_509 (fun a2 μ3 hq2 => ?_)
                                    obtain ⟨rfl, hS3⟩ := hq2
                                    have hM3 := hS3.md hM2
                                    have hX3 := zRX_lo hX2 hS3.lo
                                    have hCh3 := zCho_of hCh2 (hS3.lo 108 (by decide))
                                    refine zY.icmp_same (tgt := 790) hO dL_law_512 (by decide) ?_
                                    refine zY.iinc3 ((3 * (t + 1) : Nat) : Int) (by omega) (zc1_P _) hO dL_law_790 ?_
                                    refine zY.goto (tgt := 18) hO dL_law_793 (by decide) ?_
                                    exact ih18 (by omega) (D) K0 K1 μ3 hX3 hCh3 hM3
                                  ·
                                    by_cases e32_15 : (c : Int) = 15
                                    ·
                                      refine zY.tswIn (off := 485) (tgt := 517) ⟨by omega, by omega⟩ (by omega) (by omega) (by rw [e32_15]; rfl) (by decide) hO dL_law_32 ?_
                                      refine zY.aload_n hO dL_law_517 rfl ?_
                                      refine zY.aload_n hO dL_law_518 rfl ?_
                                      refine zY.iload_n hO dL_law_519 rfl ?_
                                      refine zY.iconst hO dL_law_520 ?_
                                      refine zY.iadd hO dL_law_521 ?_
                                      refine zY.sld (j := 3 * t + 1) hSc hadb (by omega) (by omega) (by omega) hO dL_law_522 ?_
                                      refine zY.callV1i (ct_X10_loans hX (zrI (xs (3 * t + 1)))) (by decide) zcal_X10_loans zml_L_76 (by decide : 0 < 150) rfl rfl (Nat.le_of_ble_eq_true rfl) rfl (hG.le (c := 150) (s := 13277) (by decide) (by decide)) hO dL_law_523 (fun a1 μ2 hq1 => ?_)
                                      obtain ⟨rfl, hS2⟩ := hq1
                                      have hM2 := zMd_hi hM (fun q hq => hS2 q (Or.inr (by omega)))
                                      have hX2 := hS2.rx hX (by decide)
                                      have hCh2 := zCho_of hCh (hS2 108 (by decide))
                                      refine zY.aload_n hO dL_law_526 rfl ?_
                                      refine zY.aload_n hO dL_law_527 rfl ?_
                                      refine zY.iload_n hO dL_law_528 rfl ?_
                                      refine zY.iconst hO dL_law_529 ?_
                                      refine zY.iadd hO dL_law_530 ?_
                                      refine zY.sld (j := 3 * t + 1) hSc hadb (by omega) (by omega) (by omega) hO dL_law_531 ?_
                                      refine zY.callV1i (ct_X11_loans hM2 (zrI (xs (3 * t + 1)))) (by decide) zcal_X11_loans zml_L_79 (by decide : 127 < 150) rfl rfl (Nat.le_of_ble_eq_true rfl) rfl (hG.le (c := 150) (s := 13277) (by decide) (by decide)) hO dL_law_532 (fun a2 μ3 hq2 => ?_)
                                      obtain ⟨rfl, hS3⟩ := hq2
                                      have hM3 := hS3.md hM2
                                      have hX3 := zRX_lo hX2 hS3.lo
                                      have hCh3 := zCho_of hCh2 (hS3.lo 108 (by decide))
                                      refine zY.icmp_same (tgt := 790) hO dL_law_535 (by decide) ?_
                                      refine zY.iinc3 ((3 * (t + 1) : Nat) : Int) (by omega) (zc1_P _) hO dL_law_790 ?_
                                      refine zY.goto (tgt := 18) hO dL_law_793 (by decide) ?_
                                      exact ih18 (by omega) (D) K0 K1 μ3 hX3 hCh3 hM3
                                    ·
                                      by_cases e32_16 : (c : Int) = 16
                                      ·
                                        refine zY.tswIn (off := 508) (tgt := 540) ⟨by omega, by omega⟩ (by omega) (by omega) (by rw [e32_16]; rfl) (by decide) hO dL_law_32 ?_
                                        refine zY.aload_n hO dL_law_540 rfl ?_
                                        refine zY.callV0i (ct_X10_presses hX) (by decide) zcal_X10_presses zml_L_80 (by decide : 0 < 150) rfl rfl (Nat.le_of_ble_eq_true rfl) rfl (hG.le (c := 150) (s := 13277) (by decide) (by decide)) hO dL_law_541 (fun a1 μ2 hq1 => ?_)
                                        obtain ⟨rfl, hS2⟩ := hq1
                                        have hM2 := zMd_hi hM (fun q hq => hS2 q (Or.inr (by omega)))
                                        have hX2 := hS2.rx hX (by decide)
                                        have hCh2 := zCho_of hCh (hS2 108 (by decide))
                                        refine zY.aload_n hO dL_law_544 rfl ?_
                                        refine zY.callV0i (ct_X11_presses hM2) (by decide) zcal_X11_presses zml_L_83 (by decide : 127 < 150) rfl rfl (Nat.le_of_ble_eq_true rfl) rfl (hG.le (c := 150) (s := 13277) (by decide) (by decide)) hO dL_law_545 (fun a2 μ3 hq2 => ?_)
                                        obtain ⟨rfl, hS3⟩ := hq2
                                        have hM3 := hS3.md hM2
                                        have hX3 := zRX_lo hX2 hS3.lo
                                        have hCh3 := zCho_of hCh2 (hS3.lo 108 (by decide))
                                        refine zY.icmp_same (tgt := 790) hO dL_law_548 (by decide) ?_
                                        refine zY.iinc3 ((3 * (t + 1) : Nat) : Int) (by omega) (zc1_P _) hO dL_law_790 ?_
                                        refine zY.goto (tgt := 18) hO dL_law_793 (by decide) ?_
                                        exact ih18 (by omega) (D) K0 K1 μ3 hX3 hCh3 hM3
                                      ·
                                        by_cases e32_17 : (c : Int) = 17
                                        ·
                                          refine zY.tswIn (off := 521) (tgt := 553) ⟨by omega, by omega⟩ (by omega) (by omega) (by rw [e32_17]; rfl) (by decide) hO dL_law_32 ?_
                                          refine zY.aload_n hO dL_law_553 rfl ?_
                                          refine zY.aload_n hO dL_law_554 rfl ?_
                                          refine zY.iload_n hO dL_law_555 rfl ?_
                                          refine zY.iconst hO dL_law_556 ?_
                                          refine zY.iadd hO dL_law_557 ?_
                                          refine zY.sld (j := 3 * t + 1) hSc hadb (by omega) (by omega) (by omega) hO dL_law_558 ?_
                                          refine zY.callV1i (ct_X10_melt hX (zrI (xs (3 * t + 1)))) (by decide) zcal_X10_melt zml_L_84 (by decide : 0 < 150) rfl rfl (Nat.le_of_ble_eq_true rfl) rfl (hG.le (c := 150) (s := 13277) (by decide) (by decide)) hO dL_law_559 (fun a1 μ2 hq1 => ?_)
                                          obtain ⟨rfl, hS2⟩ := hq1
                                          have hM2 := zMd_hi hM (fun q hq => hS2 q (Or.inr (by omega)))
                                          have hX2 := hS2.rx hX (by decide)
                                          have hCh2 := zCho_of hCh (hS2 108 (by decide))
                                          refine zY.aload_n hO dL_law_562 rfl ?_
                                          refine zY.aload_n hO dL_law_563 rfl ?_
                                          refine zY.iload_n hO dL_law_564 rfl ?_
                                          refine zY.iconst hO dL_law_565 ?_
                                          refine zY.iadd hO dL_law_566 ?_
                                          refine zY.sld (j := 3 * t + 1) hSc hadb (by omega) (by omega) (by omega) hO dL_law_567 ?_
                                          refine zY.callV1i (ct_X11_melt hM2 (zrI (xs (3 * t + 1)))) (by decide) zcal_X11_melt zml_L_87 (by decide : 127 < 150) rfl rfl (Nat.le_of_ble_eq_true rfl) rfl (hG.le (c := 150) (s := 13277) (by decide) (by decide)) hO dL_law_568 (fun a2 μ3 hq2 => ?_)
                                          obtain ⟨rfl, hS3⟩ := hq2
                                          have hM3 := hS3.md hM2
                                          have hX3 := zRX_lo hX2 hS3.lo
                                          have hCh3 := zCho_of hCh2 (hS3.lo 108 (by decide))
                                          refine zY.icmp_same (tgt := 790) hO dL_law_571 (by decide) ?_
                                          refine zY.iinc3 ((3 * (t + 1) : Nat) : Int) (by omega) (zc1_P _) hO dL_law_790 ?_
                                          refine zY.goto (tgt := 18) hO dL_law_793 (by decide) ?_
                                          exact ih18 (by omega) (D) K0 K1 μ3 hX3 hCh3 hM3
                                        ·
                                          by_cases e32_18 : (c : Int) = 18
                                          ·
                                            refine zY.tswIn (off := 544) (tgt := 576) ⟨by omega, by omega⟩ (by omega) (by omega) (by rw [e32_18]; rfl) (by decide) hO dL_law_32 ?_
                                            refine zY.aload_n hO dL_law_576 rfl ?_
                                            refine zY.aload_n hO dL_law_577 rfl ?_
                                            refine zY.iload_n hO dL_law_578 rfl ?_
                                            refine zY.iconst hO dL_law_579 ?_
                                            refine zY.iadd hO dL_law_580 ?_
                                            refine zY.sld (j := 3 * t + 1) hSc hadb (by omega) (by omega) (by omega) hO dL_law_581 ?_
                                            refine zY.aload_n hO dL_law_582 rfl ?_
                                            refine zY.iload_n hO dL_law_583 rfl ?_
                                            refine zY.iconst hO dL_law_584 ?_
                                            refine zY.iadd hO dL_law_585 ?_
                                            refine zY.sld (j := 3 * t + 2) hSc hadb (by omega) (by omega) (by omega) hO dL_law_586 ?_
                                            refine zY.callV2i (ct_X10_seen hX (zrI (xs (3 * t + 1))) (zrI (xs (3 * t + 2)))) (by decide) zcal_X10_seen zml_L_88 (by decide : 0 < 150) rfl rfl (Nat.le_of_ble_eq_true rfl) rfl (hG.le (c := 150) (s := 13277) (by decide) (by decide)) hO dL_law_587 (fun a1 μ2 hq1 => ?_)
                                            obtain ⟨rfl, hX2, hS2⟩ := hq1
                                            have hM2 := zMd_hi hM (fun q hq => hS2 q (Or.inr (by omega)))
                                            have hCh2 := zCho_of hCh (hS2 108 (Or.inr (by decide)))
                                            refine zY.aload_n hO dL_law_590 rfl ?_
                                            refine zY.aload_n hO dL_law_591 rfl ?_
                                            refine zY.iload_n hO dL_law_592 rfl ?_
                                            refine zY.iconst hO dL_law_593 ?_
                                            refine zY.iadd hO dL_law_594 ?_
                                            refine zY.sld (j := 3 * t + 1) hSc hadb (by omega) (by omega) (by omega) hO dL_law_595 ?_
                                            refine zY.aload_n hO dL_law_596 rfl ?_
                                            refine zY.iload_n hO dL_law_597 rfl ?_
                                            refine zY.iconst hO dL_law_598 ?_
                                            refine zY.iadd hO dL_law_599 ?_
                                            refine zY.sld (j := 3 * t + 2) hSc hadb (by omega) (by omega) (by omega) hO dL_law_600 ?_
                                            refine zY.callV2i (ct_X11_seen hM2 (zrI (xs (3 * t + 1))) (zrI (xs (3 * t + 2)))) (by decide) zcal_X11_seen zml_L_91 (by decide : 127 < 150) rfl rfl (Nat.le_of_ble_eq_true rfl) rfl (hG.le (c := 150) (s := 13277) (by decide) (by decide)) hO dL_law_601 (fun a2 μ3 hq2 => ?_)
                                            obtain ⟨rfl, hM3, hS3⟩ := hq2
                                            have hX3 := zRX_lo hX2 hS3
                                            have hCh3 := zCho_of hCh2 (hS3 108 (by decide))
                                            refine zY.icmp_same (tgt := 790) hO dL_law_604 (by decide) ?_
                                            refine zY.iinc3 ((3 * (t + 1) : Nat) : Int) (by omega) (zc1_P _) hO dL_law_790 ?_
                                            refine zY.goto (tgt := 18) hO dL_law_793 (by decide) ?_
                                            exact ih18 (by omega) (zU_seen D (xs (3 * t + 1)).toInt (xs (3 * t + 2)).toInt) K0 K1 μ3 hX3 hCh3 hM3
                                          ·
                                            by_cases e32_19 : (c : Int) = 19
                                            ·
                                              refine zY.tswIn (off := 577) (tgt := 609) ⟨by omega, by omega⟩ (by omega) (by omega) (by rw [e32_19]; rfl) (by decide) hO dL_law_32 ?_
                                              refine zY.aload_n hO dL_law_609 rfl ?_
                                              refine zY.callV0i (ct_X10_fits hX) (by decide) zcal_X10_fits zml_L_92 (by decide : 0 < 150) rfl rfl (Nat.le_of_ble_eq_true rfl) rfl (hG.le (c := 150) (s := 13277) (by decide) (by decide)) hO dL_law_610 (fun a1 μ2 hq1 => ?_)
                                              obtain ⟨rfl, -, hS2⟩ := hq1
                                              have hM2 := zMd_hi hM (fun q hq => hS2 q (Or.inr (by omega)))
                                              have hX2 := hS2.rx hX (by decide)
                                              have hCh2 := zCho_of hCh (hS2 108 (by decide))
                                              refine zY.aload_n hO dL_law_613 rfl ?_
                                              refine zY.callV0i (ct_X11_fits hM2) (by decide) zcal_X11_fits zml_L_95 (by decide : 127 < 150) rfl rfl (Nat.le_of_ble_eq_true rfl) rfl (hG.le (c := 150) (s := 13277) (by decide) (by decide)) hO dL_law_614 (fun a2 μ3 hq2 => ?_)
                                              obtain ⟨rfl, hS3⟩ := hq2
                                              have hM3 := hS3.md hM2
                                              have hX3 := zRX_lo hX2 hS3.lo
                                              have hCh3 := zCho_of hCh2 (hS3.lo 108 (by decide))
                                              refine zY.icmp_same (tgt := 790) hO dL_law_617 (by decide) ?_
                                              refine zY.iinc3 ((3 * (t + 1) : Nat) : Int) (by omega) (zc1_P _) hO dL_law_790 ?_
                                              refine zY.goto (tgt := 18) hO dL_law_793 (by decide) ?_
                                              exact ih18 (by omega) (D) K0 K1 μ3 hX3 hCh3 hM3
                                            ·
                                              by_cases e32_20 : (c : Int) = 20
                                              ·
                                                refine zY.tswIn (off := 590) (tgt := 622) ⟨by omega, by omega⟩ (by omega) (by omega) (by rw [e32_20]; rfl) (by decide) hO dL_law_32 ?_
                                                refine zY.aload_n hO dL_law_622 rfl ?_
                                                refine zY.aload_n hO dL_law_623 rfl ?_
                                                refine zY.iload_n hO dL_law_624 rfl ?_
                                                refine zY.iconst hO dL_law_625 ?_
                                                refine zY.iadd hO dL_law_626 ?_
                                                refine zY.sld (j := 3 * t + 1) hSc hadb (by omega) (by omega) (by omega) hO dL_law_627 ?_
                                                refine zY.aload_n hO dL_law_628 rfl ?_
                                                refine zY.iload_n hO dL_law_629 rfl ?_
                                                refine zY.iconst hO dL_law_630 ?_
                                                refine zY.iadd hO dL_law_631 ?_
                                                refine zY.sld (j := 3 * t + 2) hSc hadb (by omega) (by omega) (by omega) hO dL_law_632 ?_
                                                refine zY.callV2i (ct_X10_ahead hX (zrI (xs (3 * t + 1))) (zrI (xs (3 * t + 2)))) (by decide) zcal_X10_ahead zml_L_96 (by decide : 0 < 150) rfl rfl (Nat.le_of_ble_eq_true rfl) rfl (hG.le (c := 150) (s := 13277) (by decide) (by decide)) hO dL_law_633 (fun a1 μ2 hq1 => ?_)
                                                obtain ⟨rfl, hS2⟩ := hq1
                                                have hM2 := zMd_hi hM (fun q hq => hS2 q (Or.inr (by omega)))
                                                have hX2 := hS2.rx hX (by decide)
                                                have hCh2 := zCho_of hCh (hS2 108 (by decide))
                                                refine zY.aload_n hO dL_law_636 rfl ?_
                                                refine zY.aload_n hO dL_law_637 rfl ?_
                                                refine zY.iload_n hO dL_law_638 rfl ?_
                                                refine zY.iconst hO dL_law_639 ?_
                                                refine zY.iadd hO dL_law_640 ?_
                                                refine zY.sld (j := 3 * t + 1) hSc hadb (by omega) (by omega) (by omega) hO dL_law_641 ?_
                                                refine zY.aload_n hO dL_law_642 rfl ?_
                                                refine zY.iload_n hO dL_law_643 rfl ?_
                                                refine zY.iconst hO dL_law_644 ?_
                                                refine zY.iadd hO dL_law_645 ?_
                                                refine zY.sld (j := 3 * t + 2) hSc hadb (by omega) (by omega) (by omega) hO dL_law_646 ?_
                                                refine zY.callV2i (ct_X11_ahead hM2 (zrI (xs (3 * t + 1))) (zrI (xs (3 * t + 2)))) (by decide) zcal_X11_ahead zml_L_99 (by decide : 127 < 150) rfl rfl (Nat.le_of_ble_eq_true rfl) rfl (hG.le (c := 150) (s := 13277) (by decide) (by decide)) hO dL_law_647 (fun a2 μ3 hq2 => ?_)
                                                obtain ⟨rfl, hS3⟩ := hq2
                                                have hM3 := hS3.md hM2
                                                have hX3 := zRX_lo hX2 hS3.lo
                                                have hCh3 := zCho_of hCh2 (hS3.lo 108 (by decide))
                                                refine zY.icmp_same (tgt := 790) hO dL_law_650 (by decide) ?_
                                                refine zY.iinc3 ((3 * (t + 1) : Nat) : Int) (by omega) (zc1_P _) hO dL_law_790 ?_
                                                refine zY.goto (tgt := 18) hO dL_law_793 (by decide) ?_
                                                exact ih18 (by omega) (D) K0 K1 μ3 hX3 hCh3 hM3
                                              ·
                                                by_cases e32_21 : (c : Int) = 21
                                                ·
                                                  refine zY.tswIn (off := 623) (tgt := 655) ⟨by omega, by omega⟩ (by omega) (by omega) (by rw [e32_21]; rfl) (by decide) hO dL_law_32 ?_
                                                  refine zY.aload_n hO dL_law_655 rfl ?_
                                                  refine zY.aload_n hO dL_law_656 rfl ?_
                                                  refine zY.iload_n hO dL_law_657 rfl ?_
                                                  refine zY.iconst hO dL_law_658 ?_
                                                  refine zY.iadd hO dL_law_659 ?_
                                                  refine zY.sld (j := 3 * t + 1) hSc hadb (by omega) (by omega) (by omega) hO dL_law_660 ?_
                                                  refine zY.aload_n hO dL_law_661 rfl ?_
                                                  refine zY.iload_n hO dL_law_662 rfl ?_
                                                  refine zY.iconst hO dL_law_663 ?_
                                                  refine zY.iadd hO dL_law_664 ?_
                                                  refine zY.sld (j := 3 * t + 2) hSc hadb (by omega) (by omega) (by omega) hO dL_law_665 ?_
                                                  refine zY.callV2i (ct_X10_known hX (zrI (xs (3 * t + 1))) (zrI (xs (3 * t + 2)))) (by decide) zcal_X10_known zml_L_100 (by decide : 0 < 150) rfl rfl (Nat.le_of_ble_eq_true rfl) rfl (hG.le (c := 150) (s := 13277) (by decide) (by decide)) hO dL_law_666 (fun a1 μ2 hq1 => ?_)
                                                  obtain ⟨rfl, rfl⟩ := hq1
                                                  have hM2 := hM
                                                  refine zY.aload_n hO dL_law_669 rfl ?_
                                                  refine zY.aload_n hO dL_law_670 rfl ?_
                                                  refine zY.iload_n hO dL_law_671 rfl ?_
                                                  refine zY.iconst hO dL_law_672 ?_
                                                  refine zY.iadd hO dL_law_673 ?_
                                                  refine zY.sld (j := 3 * t + 1) hSc hadb (by omega) (by omega) (by omega) hO dL_law_674 ?_
                                                  refine zY.aload_n hO dL_law_675 rfl ?_
                                                  refine zY.iload_n hO dL_law_676 rfl ?_
                                                  refine zY.iconst hO dL_law_677 ?_
                                                  refine zY.iadd hO dL_law_678 ?_
                                                  refine zY.sld (j := 3 * t + 2) hSc hadb (by omega) (by omega) (by omega) hO dL_law_679 ?_
                                                  refine zY.callV2i (ct_X11_known hM2 (zrI (xs (3 * t + 1))) (zrI (xs (3 * t + 2)))) (by decide) zcal_X11_known zml_L_103 (by decide : 127 < 150) rfl rfl (Nat.le_of_ble_eq_true rfl) rfl (hG.le (c := 150) (s := 13277) (by decide) (by decide)) hO dL_law_680 (fun a2 μ3 hq2 => ?_)
                                                  obtain ⟨rfl, rfl⟩ := hq2
                                                  have hM3 := hM
                                                  have hX3 := hX
                                                  have hCh3 := hCh
                                                  refine zY.icmp_same (tgt := 790) hO dL_law_683 (by decide) ?_
                                                  refine zY.iinc3 ((3 * (t + 1) : Nat) : Int) (by omega) (zc1_P _) hO dL_law_790 ?_
                                                  refine zY.goto (tgt := 18) hO dL_law_793 (by decide) ?_
                                                  exact ih18 (by omega) (D) K0 K1 _ hX3 hCh3 hM3
                                                ·
                                                  by_cases e32_22 : (c : Int) = 22
                                                  ·
                                                    refine zY.tswIn (off := 656) (tgt := 688) ⟨by omega, by omega⟩ (by omega) (by omega) (by rw [e32_22]; rfl) (by decide) hO dL_law_32 ?_
                                                    refine zY.aload_n hO dL_law_688 rfl ?_
                                                    refine zY.aload_n hO dL_law_689 rfl ?_
                                                    refine zY.iload_n hO dL_law_690 rfl ?_
                                                    refine zY.iconst hO dL_law_691 ?_
                                                    refine zY.iadd hO dL_law_692 ?_
                                                    refine zY.sld (j := 3 * t + 1) hSc hadb (by omega) (by omega) (by omega) hO dL_law_693 ?_
                                                    refine zY.aload_n hO dL_law_694 rfl ?_
                                                    refine zY.iload_n hO dL_law_695 rfl ?_
                                                    refine zY.iconst hO dL_law_696 ?_
                                                    refine zY.iadd hO dL_law_697 ?_
                                                    refine zY.sld (j := 3 * t + 2) hSc hadb (by omega) (by omega) (by omega) hO dL_law_698 ?_
                                                    refine zY.callV2i (ct_X10_knownOf hX (zrI (xs (3 * t + 1))) (zrI (xs (3 * t + 2)))) (by decide) zcal_X10_knownOf zml_L_104 (by decide : 0 < 150) rfl rfl (Nat.le_of_ble_eq_true rfl) rfl (hG.le (c := 150) (s := 13277) (by decide) (by decide)) hO dL_law_699 (fun a1 μ2 hq1 => ?_)
                                                    obtain ⟨rfl, rfl⟩ := hq1
                                                    have hM2 := hM
                                                    refine zY.aload_n hO dL_law_702 rfl ?_
                                                    refine zY.aload_n hO dL_law_703 rfl ?_
                                                    refine zY.iload_n hO dL_law_704 rfl ?_
                                                    refine zY.iconst hO dL_law_705 ?_
                                                    refine zY.iadd hO dL_law_706 ?_
                                                    refine zY.sld (j := 3 * t + 1) hSc hadb (by omega) (by omega) (by omega) hO dL_law_707 ?_
                                                    refine zY.aload_n hO dL_law_708 rfl ?_
                                                    refine zY.iload_n hO dL_law_709 rfl ?_
                                                    refine zY.iconst hO dL_law_710 ?_
                                                    refine zY.iadd hO dL_law_711 ?_
                                                    refine zY.sld (j := 3 * t + 2) hSc hadb (by omega) (by omega) (by omega) hO dL_law_712 ?_
                                                    refine zY.callV2i (ct_X11_knownOf hM2 (zrI (xs (3 * t + 1))) (zrI (xs (3 * t + 2)))) (by decide) zcal_X11_knownOf zml_L_107 (by decide : 127 < 150) rfl rfl (Nat.le_of_ble_eq_true rfl) rfl (hG.le (c := 150) (s := 13277) (by decide) (by decide)) hO dL_law_713 (fun a2 μ3 hq2 => ?_)
                                                    obtain ⟨rfl, rfl⟩ := hq2
                                                    have hM3 := hM
                                                    have hX3 := hX
                                                    have hCh3 := hCh
                                                    refine zY.icmp_same (tgt := 790) hO dL_law_716 (by decide) ?_
                                                    refine zY.iinc3 ((3 * (t + 1) : Nat) : Int) (by omega) (zc1_P _) hO dL_law_790 ?_
                                                    refine zY.goto (tgt := 18) hO dL_law_793 (by decide) ?_
                                                    exact ih18 (by omega) (D) K0 K1 _ hX3 hCh3 hM3
                                                  ·
                                                    by_cases e32_23 : (c : Int) = 23
                                                    ·
                                                      refine zY.tswIn (off := 689) (tgt := 721) ⟨by omega, by omega⟩ (by omega) (by omega) (by rw [e32_23]; rfl) (by decide) hO dL_law_32 ?_
                                                      refine zY.aload_n hO dL_law_721 rfl ?_
                                                      refine zY.aload_n hO dL_law_722 rfl ?_
                                                      refine zY.iload_n hO dL_law_723 rfl ?_
                                                      refine zY.iconst hO dL_law_724 ?_
                                                      refine zY.iadd hO dL_law_725 ?_
                                                      refine zY.sld (j := 3 * t + 1) hSc hadb (by omega) (by omega) (by omega) hO dL_law_726 ?_
                                                      refine zY.callV1i (cu_X10_image hX (zrI (xs (3 * t + 1)))) (by decide) zcal_X10_image zml_L_108 (by decide : 0 < 150) rfl rfl (Nat.le_of_ble_eq_true rfl) rfl (hG.le (c := 150) (s := 13277) (by decide) (by decide)) hO dL_law_727 (fun a1 μ2 hq1 => ?_)
                                                      obtain ⟨rfl, hX2, hS2⟩ := hq1
                                                      have hM2 := zMd_hi hM (fun q hq => hS2 q (Or.inr (by omega)))
                                                      have hCh2 := zCho_of hCh (hS2 108 (Or.inr (by decide)))
                                                      refine zY.aload_n hO dL_law_730 rfl ?_
                                                      refine zY.aload_n hO dL_law_731 rfl ?_
                                                      refine zY.iload_n hO dL_law_732 rfl ?_
                                                      refine zY.iconst hO dL_law_733 ?_
                                                      refine zY.iadd hO dL_law_734 ?_
                                                      refine zY.sld (j := 3 * t + 1) hSc hadb (by omega) (by omega) (by omega) hO dL_law_735 ?_
                                                      refine zY.callV1i (cu_X11_image hM2 (zrI (xs (3 * t + 1)))) (by decide) zcal_X11_image zml_L_111 (by decide : 127 < 150) rfl rfl (Nat.le_of_ble_eq_true rfl) rfl (hG.le (c := 150) (s := 13277) (by decide) (by decide)) hO dL_law_736 (fun a2 μ3 hq2 => ?_)
                                                      obtain ⟨rfl, hM3, hS3⟩ := hq2
                                                      have hX3 := zRX_lo hX2 hS3
                                                      have hCh3 := zCho_of hCh2 (hS3 108 (by decide))
                                                      refine zY.icmp_same (tgt := 790) hO dL_law_739 (by decide) ?_
                                                      refine zY.iinc3 ((3 * (t + 1) : Nat) : Int) (by omega) (zc1_P _) hO dL_law_790 ?_
                                                      refine zY.goto (tgt := 18) hO dL_law_793 (by decide) ?_
                                                      exact ih18 (by omega) (D) (zKi D K0 0 (xs (3 * t + 1)).toInt) (zKi D K1 1 (xs (3 * t + 1)).toInt) μ3 hX3 hCh3 hM3
                                                    ·
                                                      by_cases e32_24 : (c : Int) = 24
                                                      ·
                                                        refine zY.tswIn (off := 712) (tgt := 744) ⟨by omega, by omega⟩ (by omega) (by omega) (by rw [e32_24]; rfl) (by decide) hO dL_law_32 ?_
                                                        refine zY.aload_n hO dL_law_744 rfl ?_
                                                        refine zY.aload_n hO dL_law_745 rfl ?_
                                                        refine zY.iload_n hO dL_law_746 rfl ?_
                                                        refine zY.iconst hO dL_law_747 ?_
                                                        refine zY.iadd hO dL_law_748 ?_
                                                        refine zY.sld (j := 3 * t + 1) hSc hadb (by omega) (by omega) (by omega) hO dL_law_749 ?_
                                                        refine zY.callV1i (cu_X10_restore hX (zrI (xs (3 * t + 1)))) (by decide) zcal_X10_restore zml_L_112 (by decide : 0 < 150) rfl rfl (Nat.le_of_ble_eq_true rfl) rfl (hG.le (c := 150) (s := 13277) (by decide) (by decide)) hO dL_law_750 (fun a1 μ2 hq1 => ?_)
                                                        obtain ⟨rfl, hX2, hS2⟩ := hq1
                                                        have hM2 := zMd_hi hM (fun q hq => hS2 q (Or.inr (by omega)))
                                                        have hCh2 := zCho_of hCh (hS2 108 (Or.inr (by decide)))
                                                        refine zY.aload_n hO dL_law_753 rfl ?_
                                                        refine zY.aload_n hO dL_law_754 rfl ?_
                                                        refine zY.iload_n hO dL_law_755 rfl ?_
                                                        refine zY.iconst hO dL_law_756 ?_
                                                        refine zY.iadd hO dL_law_757 ?_
                                                        refine zY.sld (j := 3 * t + 1) hSc hadb (by omega) (by omega) (by omega) hO dL_law_758 ?_
                                                        refine zY.callV1i (cu_X11_restore hM2 (zrI (xs (3 * t + 1)))) (by decide) zcal_X11_restore zml_L_115 (by decide : 127 < 150) rfl rfl (Nat.le_of_ble_eq_true rfl) rfl (hG.le (c := 150) (s := 13277) (by decide) (by decide)) hO dL_law_759 (fun a2 μ3 hq2 => ?_)
                                                        obtain ⟨rfl, hM3, hS3⟩ := hq2
                                                        have hX3 := zRX_lo hX2 hS3
                                                        have hCh3 := zCho_of hCh2 (hS3 108 (by decide))
                                                        refine zY.icmp_same (tgt := 790) hO dL_law_762 (by decide) ?_
                                                        refine zY.iinc3 ((3 * (t + 1) : Nat) : Int) (by omega) (zc1_P _) hO dL_law_790 ?_
                                                        refine zY.goto (tgt := 18) hO dL_law_793 (by decide) ?_
                                                        exact ih18 (by omega) (zU_rs D K0 K1 (xs (3 * t + 1)).toInt) K0 K1 μ3 hX3 hCh3 hM3
                                                      ·
                                                        by_cases e32_25 : (c : Int) = 25
                                                        ·
                                                          refine zY.tswIn (off := 735) (tgt := 767) ⟨by omega, by omega⟩ (by omega) (by omega) (by rw [e32_25]; rfl) (by decide) hO dL_law_32 ?_
                                                          refine zY.aload_n hO dL_law_767 rfl ?_
                                                          refine zY.aload_n hO dL_law_768 rfl ?_
                                                          refine zY.iload_n hO dL_law_769 rfl ?_
                                                          refine zY.iconst hO dL_law_770 ?_
                                                          refine zY.iadd hO dL_law_771 ?_
                                                          refine zY.sld (j := 3 * t + 1) hSc hadb (by omega) (by omega) (by omega) hO dL_law_772 ?_
                                                          refine zY.callV1i (ct_X10_told hX (zrI (xs (3 * t + 1)))) (by decide) zcal_X10_told zml_L_116 (by decide : 0 < 150) rfl rfl (Nat.le_of_ble_eq_true rfl) rfl (hG.le (c := 150) (s := 13277) (by decide) (by decide)) hO dL_law_773 (fun a1 μ2 hq1 => ?_)
                                                          obtain ⟨rfl, rfl⟩ := hq1
                                                          have hM2 := hM
                                                          refine zY.aload_n hO dL_law_776 rfl ?_
                                                          refine zY.aload_n hO dL_law_777 rfl ?_
                                                          refine zY.iload_n hO dL_law_778 rfl ?_
                                                          refine zY.iconst hO dL_law_779 ?_
                                                          refine zY.iadd hO dL_law_780 ?_
                                                          refine zY.sld (j := 3 * t + 1) hSc hadb (by omega) (by omega) (by omega) hO dL_law_781 ?_
                                                          refine zY.callV1i (ct_X11_told hM2 (zrI (xs (3 * t + 1)))) (by decide) zcal_X11_told zml_L_119 (by decide : 127 < 150) rfl rfl (Nat.le_of_ble_eq_true rfl) rfl (hG.le (c := 150) (s := 13277) (by decide) (by decide)) hO dL_law_782 (fun a2 μ3 hq2 => ?_)
                                                          obtain ⟨rfl, rfl⟩ := hq2
                                                          have hM3 := hM
                                                          have hX3 := hX
                                                          have hCh3 := hCh
                                                          refine zY.icmp_same (tgt := 790) hO dL_law_785 (by decide) ?_
                                                          refine zY.iinc3 ((3 * (t + 1) : Nat) : Int) (by omega) (zc1_P _) hO dL_law_790 ?_
                                                          refine zY.goto (tgt := 18) hO dL_law_793 (by decide) ?_
                                                          exact ih18 (by omega) (D) K0 K1 _ hX3 hCh3 hM3
                                                        ·
                                                          refine zY.tswOut (tgt := 790) ⟨by omega, by omega⟩ (by omega) (by decide) hO dL_law_32 ?_
                                                          refine zY.iinc3 ((3 * (t + 1) : Nat) : Int) (by omega) (zc1_P _) hO dL_law_790 ?_
                                                          refine zY.goto (tgt := 18) hO dL_law_793 (by decide) ?_
                                                          exact ih18 (by omega) D K0 K1 μ1 hX hCh hM
  exact L18
