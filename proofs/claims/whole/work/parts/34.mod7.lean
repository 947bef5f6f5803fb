/-! the model: presses -/
theorem zY.callV5i {Γ : zCx} {ω : zOm} {k kc : zMth} {d dc pc idx : Nat} {lv : List (Option Value)} {rest : List Value} {μ : zMem} {v1 v2 v3 v4 v5 : Value} {q ci : Nat} {fl : List (Nat × Nat)} {T : u_T} {N : Nat} {post : Int → zMem → Prop} (hc : Ci kc dc ω.1 ω.2.1 [zP q, v1, v2, v3, v4, v5] μ post) (hdd : dc + 1 ≤ d) (hk : zCalV kc 5) (hlk : Cond.methodLink k.1.cls idx kc.1 ∈ zT) (hq : q < ω.1) (hs : ω.2.1 q = (0, ci, fl)) (hcl : vwCl[ci]? = some (kc.1.cls, T, N)) (hrs : (rest.map fun v => v.category).sum ≤ 8) (hll : lv.length = k.2.2.1) (hcs : ω.2.2.2.1 ≤ Γ.1.2.2.2.cells ∧ ω.2.2.2.2 ≤ Γ.1.2.2.2.slots) (hO : zok Γ k d) (hd : decode k.2.1 pc = .ok (.invokevirtual idx, 3)) (kk : ∀ a μ', post a μ' → zY Γ ω (pc + 3) lv (zI a :: rest) μ') : zY Γ ω pc lv (v5 :: v4 :: v3 :: v2 :: v1 :: zP q :: rest) μ :=
  zY.callV (av := [v1, v2, v3, v4, v5]) hc hdd hk rfl hlk hq hs hcl hrs hll hcs hO hd (fun r μ' ⟨a, h1, h2⟩ => by subst h1; exact kk a μ' h2)

set_option maxRecDepth 100000 in
set_option maxHeartbeats 4000000 in
theorem ct_X11_openRows {μ : zMem} {D : zBk} {K0 K1 : Option zBk} (hM : zMd D K0 K1 μ) {c p1 p2 : Nat} (hT : zTwo D c) (h1 : p1 ≤ c) (h2 : p2 ≤ zN D - c - 1)  : Cv kX11_openRows 5 150 zSX [zP 127, zI (p1 : Int), zI (p2 : Int), zI (c : Int)] μ (fun μ' => ∃ n h, μ' = zrow (zrow μ 137 n) 138 h ∧ ∀ x, x < 6 → h x = zlr D c p1 p2 x) := by
  refine Ct.of [some (zP 127), some (zI (p1 : Int)), some (zI (p2 : Int)), some (zI (c : Int)), none] rfl (Nat.le_of_ble_eq_true rfl) (by decide +kernel) (fun Γ ad hO hR => ?_)
  have hT1 : 0 < c ∧ c + 1 < zN D ∧ zN D ≤ 7 := ⟨hT.1, hT.2.1, hT.2.2.1⟩
  refine zY.aload_n hO dX11_openRows_0 rfl ?_
  refine zY.callV0v (ct_X11_openCase hM) (by decide) zcal_X11_openCase zml_X11_168 (by decide : 127 < 150) rfl rfl (Nat.le_of_ble_eq_true rfl) rfl ⟨Nat.zero_le _, Nat.zero_le _⟩ hO dX11_openRows_1 (fun μ2 hq1 => ?_)
  obtain ⟨hq, hq1, hq2⟩ := hq1
  refine zY.iconst hO dX11_openRows_4 ?_
  refine zY.istore4 (zc1_I _) hO dX11_openRows_5 ?_
  have L7 : ∀ i : Nat, i ≤ p1 → ∀ (μ1 : zMem) (nq hq : Nat → Int), μ1 = zrow (zrow μ 137 nq) 138 hq → (∀ x, x < 6 → hq x = zlra D 0 i (D 5) x) → zY Γ (150, zSX, ad, 0, 0) 7 [some (zP 127), some (zI (p1 : Int)), some (zI (p2 : Int)), some (zI (c : Int)), some (zI (i : Int))] [] μ1 := by
    refine zdown (p1) (fun i hi_i ih7 => ?_)
    intro μ1 nq hq hI hJ
    have hMi : zMd D K0 K1 μ1 := by rw [hI]; exact ((zScr.rfl'.row (by decide) (by decide)).row (by decide) (by decide) : zScr μ _).md hM
    refine zY.iload hO dX11_openRows_7 rfl ?_
    refine zY.iload_n hO dX11_openRows_9 rfl ?_
    refine zY.icmp_ge (tgt := 33) ⟨by omega, by omega⟩ ⟨by omega, by omega⟩ hO dX11_openRows_10 (by decide) (fun c10 => ?_) (fun c10 => ?_)
    ·
      have hi1 : i = p1 := by omega
      rw [hi1] at hJ
      refine zY.iconst hO dX11_openRows_33 ?_
      refine zY.istore4 (zc1_I _) hO dX11_openRows_34 ?_
      have L36 : ∀ j : Nat, j ≤ p2 → ∀ (μ2 : zMem) (nq hq : Nat → Int), μ2 = zrow (zrow μ 137 nq) 138 hq → (∀ x, x < 6 → hq x = zlra D (c + 1) j (zlra D 0 p1 (D 5)) x) → zY Γ (150, zSX, ad, 0, 0) 36 [some (zP 127), some (zI (p1 : Int)), some (zI (p2 : Int)), some (zI (c : Int)), some (zI (j : Int))] [] μ2 := by
        refine zdown (p2) (fun j hi_j ih36 => ?_)
        intro μ2 n2q h2q hI2 hJ2
        have hMj : zMd D K0 K1 μ2 := by rw [hI2]; exact ((zScr.rfl'.row (by decide) (by decide)).row (by decide) (by decide) : zScr μ _).md hM
        refine zY.iload hO dX11_openRows_36 rfl ?_
        refine zY.iload_n hO dX11_openRows_38 rfl ?_
        refine zY.icmp_ge (tgt := 66) ⟨by omega, by omega⟩ ⟨by omega, by omega⟩ hO dX11_openRows_39 (by decide) (fun c39 => ?_) (fun c39 => ?_)
        ·
          exact zY.vret rfl ⟨rfl, ⟨n2q, h2q, hI2, fun x hx => by rw [hJ2 x hx, show j = p2 by omega]; rfl⟩⟩ hR hO dX11_openRows_66
        ·
          have ho := hT.2.2.2.2 (c + 1 + j) (by omega) (by omega)
          have hbk := zbk_b 0 hM.1 ho.2.1 ho.2.2
          obtain ⟨bq, hbq⟩ : ∃ bq : Nat, zbk D (zord D (c + 1 + j)) 0 = (bq : Int) := ⟨(zbk D (zord D (c + 1 + j)) 0).toNat, by omega⟩
          have hbx : zbx D (zord D (c + 1 + j)) 0 = (bq : Int) := (zbx_0 ho.2.2).trans hbq
          refine zY.aload_n hO dX11_openRows_42 rfl ?_
          refine zY.aload_n hO dX11_openRows_43 rfl ?_
          refine zY.aload_n hO dX11_openRows_44 rfl ?_
          refine zY.iload_n hO dX11_openRows_45 rfl ?_
          refine zY.iconst hO dX11_openRows_46 ?_
          refine zY.iadd hO dX11_openRows_47 ?_
          refine zY.iload hO dX11_openRows_48 rfl ?_
          refine zY.iadd hO dX11_openRows_50 ?_
          refine zY.as (b := ((c + 1 + j : Nat) : Int)) (by omega) ?_
          refine zY.callV1iD (ct_X11_sheetAt hMj (i := c + 1 + j) (by omega)) (by decide) zcal_X11_sheetAt zml_X11_171 (by decide : 127 < 150) rfl rfl (Nat.le_of_ble_eq_true rfl) rfl ⟨Nat.zero_le _, Nat.zero_le _⟩ hO dX11_openRows_51 ?_
          refine zY.as (b := (zord D (c + 1 + j) : Int)) (by omega) ?_
          refine zY.callV1i (ct_X11_breaksOf hMj ho.2.1 ho.2.2) (by decide) zcal_X11_breaksOf zml_X11_156 (by decide : 127 < 150) rfl rfl (Nat.le_of_ble_eq_true rfl) rfl ⟨Nat.zero_le _, Nat.zero_le _⟩ hO dX11_openRows_54 (fun aq μ3 hq3 => ?_)
          obtain ⟨rfl, n3q, hq4, hq5⟩ := hq3
          refine zY.as hbq ?_
          refine zY.callV1vD (ct_X11_lose (x := bq) (by omega) (by rw [hq4, zrow_ne (by decide), hI2, zrow_eq, hJ2 bq (by omega)]; have hz1 := hM.1.2.1 bq (by omega); have hz2 := zlra_b (D := D) (o := c + 1) (x := bq) (f := zlra D 0 p1 (D 5)) (zlra_b (by omega) _) j; omega)) (by decide) zcal_X11_lose zml_X11_177 (by decide : 127 < 150) rfl rfl (Nat.le_of_ble_eq_true rfl) rfl ⟨Nat.zero_le _, Nat.zero_le _⟩ hO dX11_openRows_57 ?_
          refine zY.iinc4 _ rfl (zc1_I _) hO dX11_openRows_60 ?_
          refine zY.goto (tgt := 36) hO dX11_openRows_63 (by decide) ?_
          exact ih36 (by omega) _ n3q (zls h2q (bq : Int)) (by rw [hq4, hI2, zrow_ne (q := 137) (q' := 138) (by decide), zrow_eq]; funext q' j'; by_cases e1 : q' = 138 <;> by_cases e2 : q' = 137 <;> simp [zrow, e1, e2]) (fun x hx => by simp only [zlra]; rw [hbx]; exact zls_congr (hJ2 x hx))
      exact L36 0 (by omega) μ1 nq hq hI hJ
    ·
      have ho := hT.2.2.2.2 i (by omega) (by omega)
      have hbk := zbk_b 0 hM.1 ho.2.1 ho.2.2
      obtain ⟨bq, hbq⟩ : ∃ bq : Nat, zbk D (zord D i) 0 = (bq : Int) := ⟨(zbk D (zord D i) 0).toNat, by omega⟩
      have hbx : zbx D (zord D i) 0 = (bq : Int) := (zbx_0 ho.2.2).trans hbq
      refine zY.aload_n hO dX11_openRows_13 rfl ?_
      refine zY.aload_n hO dX11_openRows_14 rfl ?_
      refine zY.aload_n hO dX11_openRows_15 rfl ?_
      refine zY.iload hO dX11_openRows_16 rfl ?_
      refine zY.callV1iD (ct_X11_sheetAt hMi (i := i) (by omega)) (by decide) zcal_X11_sheetAt zml_X11_171 (by decide : 127 < 150) rfl rfl (Nat.le_of_ble_eq_true rfl) rfl ⟨Nat.zero_le _, Nat.zero_le _⟩ hO dX11_openRows_18 ?_
      refine zY.as (b := (zord D i : Int)) (by omega) ?_
      refine zY.callV1i (ct_X11_breaksOf hMi ho.2.1 ho.2.2) (by decide) zcal_X11_breaksOf zml_X11_156 (by decide : 127 < 150) rfl rfl (Nat.le_of_ble_eq_true rfl) rfl ⟨Nat.zero_le _, Nat.zero_le _⟩ hO dX11_openRows_21 (fun aq μ3 hq3 => ?_)
      obtain ⟨rfl, n3q, hq4, hq5⟩ := hq3
      refine zY.as hbq ?_
      refine zY.callV1vD (ct_X11_lose (x := bq) (by omega) (by rw [hq4, zrow_ne (by decide), hI, zrow_eq, hJ bq (by omega)]; have hz1 := hM.1.2.1 bq (by omega); have hz2 := zlra_b (D := D) (o := 0) (x := bq) (f := D 5) (by omega) i; omega)) (by decide) zcal_X11_lose zml_X11_177 (by decide : 127 < 150) rfl rfl (Nat.le_of_ble_eq_true rfl) rfl ⟨Nat.zero_le _, Nat.zero_le _⟩ hO dX11_openRows_24 ?_
      refine zY.iinc4 _ rfl (zc1_I _) hO dX11_openRows_27 ?_
      refine zY.goto (tgt := 7) hO dX11_openRows_30 (by decide) ?_
      exact ih7 (by omega) _ n3q (zls hq (bq : Int)) (by rw [hq4, hI, zrow_ne (q := 137) (q' := 138) (by decide), zrow_eq]; funext q' j'; by_cases e1 : q' = 138 <;> by_cases e2 : q' = 137 <;> simp [zrow, e1, e2]) (fun x hx => by simp only [zlra]; rw [Nat.zero_add, hbx]; exact zls_congr (hJ x hx))
  exact L7 0 (by omega) μ2 (μ 137) hq (by rw [hq1, zrow_self (q := 137) (fun _ => rfl)]) hq2

set_option maxRecDepth 100000 in
set_option maxHeartbeats 4000000 in
theorem ct_X11_canPrint {μ : zMem} {D : zBk} {K0 K1 : Option zBk} (hM : zMd D K0 K1 μ) {c p1 p2 : Nat} (hT : zTwo D c) (h1 : p1 ≤ c) (h2 : p2 ≤ zN D - c - 1) {b1 b2 : Bool} (hb1 : b1 = true → p1 < c) (hb2 : b2 = true → p2 < zN D - c - 1) : Ci kX11_canPrint 6 150 zSX [zP 127, zI (p1 : Int), zI (p2 : Int), zI (c : Int), zI (if b1 = true then 1 else 0), zI (if b2 = true then 1 else 0)] μ (fun r μ' => r = (if zlk (fun x => (if b1 = true then zn1 D p1 x else 0) + (if b2 = true then zn2 D c p2 x else 0)) (zlr D c p1 p2) = 0 then 1 else 0) ∧ ∃ n h, μ' = zrow (zrow μ 137 n) 138 h) := by
  refine Ct.of [some (zP 127), some (zI (p1 : Int)), some (zI (p2 : Int)), some (zI (c : Int)), some (zI (if b1 = true then 1 else 0)), some (zI (if b2 = true then 1 else 0)), none] rfl (Nat.le_of_ble_eq_true rfl) (by decide +kernel) (fun Γ ad hO hR => ?_)
  have hT1 : 0 < c ∧ c + 1 < zN D ∧ zN D ≤ 7 := ⟨hT.1, hT.2.1, hT.2.2.1⟩
  refine zY.aload_n hO dX11_canPrint_0 rfl ?_
  refine zY.iload_n hO dX11_canPrint_1 rfl ?_
  refine zY.iload_n hO dX11_canPrint_2 rfl ?_
  refine zY.iload_n hO dX11_canPrint_3 rfl ?_
  refine zY.callV3v (ct_X11_openRows hM hT h1 h2) (by decide) zcal_X11_openRows zml_X11_232 (by decide : 127 < 150) rfl rfl (Nat.le_of_ble_eq_true rfl) rfl ⟨Nat.zero_le _, Nat.zero_le _⟩ hO dX11_canPrint_4 (fun μ2 hq1 => ?_)
  obtain ⟨nq, hq, hq1, hq2⟩ := hq1
  have hM0 : ∀ n2q : Nat → Int, zMd D K0 K1 (zrow (zrow μ 138 hq) 137 n2q) := fun n2q => ((zScr.rfl'.row (by decide) (by decide)).row (by decide) (by decide) : zScr μ _).md hM
  refine zY.iconst hO dX11_canPrint_7 ?_
  refine zY.istore6 (zc1_I _) hO dX11_canPrint_8 ?_
  have L10 : ∀ i : Nat, i ≤ 6 → ∀ (nq : Nat → Int), (∀ x, x < i → nq x = 0) → zY Γ (150, zSX, ad, 0, 0) 10 [some (zP 127), some (zI (p1 : Int)), some (zI (p2 : Int)), some (zI (c : Int)), some (zI (if b1 = true then 1 else 0)), some (zI (if b2 = true then 1 else 0)), some (zI (i : Int))] [] (zrow (zrow μ 138 hq) 137 nq) := by
    refine zdown (6) (fun i hi_i ih10 => ?_)
    intro nq hJ
    refine zY.iload hO dX11_canPrint_10 rfl ?_
    refine zY.bipush hO dX11_canPrint_12 (by decide) ?_
    refine zY.icmp_ge (tgt := 31) ⟨by omega, by omega⟩ ⟨by omega, by omega⟩ hO dX11_canPrint_14 (by decide) (fun c14 => ?_) (fun c14 => ?_)
    ·
      have L46 : ∀ (n1q : Nat → Int), (∀ x, x < 6 → n1q x = if b1 = true then zn1 D p1 x else 0) → zY Γ (150, zSX, ad, 0, 0) 46 [some (zP 127), some (zI (p1 : Int)), some (zI (p2 : Int)), some (zI (c : Int)), some (zI (if b1 = true then 1 else 0)), some (zI (if b2 = true then 1 else 0)), none] [] (zrow (zrow μ 138 hq) 137 n1q) := by
        intro n1q hn1
        refine zY.iload hO dX11_canPrint_46 rfl ?_
        have L65 : ∀ (n3q : Nat → Int), (∀ x, x < 6 → n3q x = (fun x => (if b1 = true then zn1 D p1 x else 0) + (if b2 = true then zn2 D c p2 x else 0)) x) → zY Γ (150, zSX, ad, 0, 0) 65 [some (zP 127), some (zI (p1 : Int)), some (zI (p2 : Int)), some (zI (c : Int)), some (zI (if b1 = true then 1 else 0)), some (zI (if b2 = true then 1 else 0)), none] [] (zrow (zrow μ 138 hq) 137 n3q) := by
          intro n3q hn3
          have hrz : ∀ x, x < 6 → -1000 ≤ (fun x => (if b1 = true then zn1 D p1 x else 0) + (if b2 = true then zn2 D c p2 x else 0)) x ∧ (fun x => (if b1 = true then zn1 D p1 x else 0) + (if b2 = true then zn2 D c p2 x else 0)) x ≤ 1000 ∧ -1000 ≤ zlr D c p1 p2 x ∧ zlr D c p1 p2 x ≤ 1000 := fun x hx => by
            have h2q := zlr_b hM.1 c p1 p2 hx
            have g1 : 0 ≤ (if b1 = true then zn1 D p1 x else 0) ∧ (if b1 = true then zn1 D p1 x else 0) ≤ 30 := by
              by_cases e : b1 = true
              · rw [if_pos e]; exact znd_b (ch := 0) x hM.1 (hT.2.2.2.2 p1 (by have := hb1 e; omega) (by have := hb1 e; omega)).2.1
              · rw [if_neg e]; omega
            have g2 : 0 ≤ (if b2 = true then zn2 D c p2 x else 0) ∧ (if b2 = true then zn2 D c p2 x else 0) ≤ 30 := by
              by_cases e : b2 = true
              · rw [if_pos e]; exact znd_b (ch := 0) x hM.1 (hT.2.2.2.2 (c + 1 + p2) (by have := hb2 e; omega) (by omega)).2.1
              · rw [if_neg e]; omega
            show -1000 ≤ (if b1 = true then zn1 D p1 x else 0) + (if b2 = true then zn2 D c p2 x else 0) ∧ (if b1 = true then zn1 D p1 x else 0) + (if b2 = true then zn2 D c p2 x else 0) ≤ 1000 ∧ _
            exact ⟨by omega, by omega, by omega, by omega⟩
          refine zY.aload_n hO dX11_canPrint_65 rfl ?_
          refine zY.callV0iD (ct_X11_lacking (A := (fun x => (if b1 = true then zn1 D p1 x else 0) + (if b2 = true then zn2 D c p2 x else 0))) (F := zlr D c p1 p2) (fun x hx => by rw [zrow_eq]; exact hn3 x hx) (fun x hx => by rw [zrow_ne (by decide), zrow_eq]; exact hq2 x hx) hrz) (by decide) zcal_X11_lacking zml_X11_174 (by decide : 127 < 150) rfl rfl (Nat.le_of_ble_eq_true rfl) rfl ⟨Nat.zero_le _, Nat.zero_le _⟩ hO dX11_canPrint_66 ?_
          have hfz := zfst_0 (A := (fun x => (if b1 = true then zn1 D p1 x else 0) + (if b2 = true then zn2 D c p2 x else 0))) (F := zlr D c p1 p2)
          have hfb := zfst_b (fun x => decide (zlr D c p1 p2 x < (fun x => (if b1 = true then zn1 D p1 x else 0) + (if b2 = true then zn2 D c p2 x else 0)) x)) 6 0
          obtain ⟨fq, hfq⟩ : ∃ fq : Int, fq = zfst (fun x => decide (zlr D c p1 p2 x < (fun x => (if b1 = true then zn1 D p1 x else 0) + (if b2 = true then zn2 D c p2 x else 0)) x)) 0 6 := ⟨_, rfl⟩
          rw [← hfq] at hfz hfb
          refine zY.as (b := fq) hfq.symm ?_
          refine zY.if_ge (tgt := 76) ⟨by omega, by omega⟩ hO dX11_canPrint_69 (by decide) (fun c69 => ?_) (fun c69 => ?_)
          ·
            refine zY.iconst hO dX11_canPrint_76 ?_
            exact zY.zret (by omega) rfl ⟨_, rfl, ⟨by rw [if_neg (fun z => by have := hfz.mpr z; omega)], n3q, hq, by funext q' j'; by_cases e1 : q' = 138 <;> by_cases e2 : q' = 137 <;> simp [zrow, e1, e2]⟩⟩ hR hO dX11_canPrint_77
          ·
            refine zY.iconst hO dX11_canPrint_72 ?_
            refine zY.goto (tgt := 77) hO dX11_canPrint_73 (by decide) ?_
            exact zY.zret (by omega) rfl ⟨_, rfl, ⟨by rw [if_pos (hfz.mp (by omega))], n3q, hq, by funext q' j'; by_cases e1 : q' = 138 <;> by_cases e2 : q' = 137 <;> simp [zrow, e1, e2]⟩⟩ hR hO dX11_canPrint_77
        refine zY.if_eq (tgt := 65) zr_b hO dX11_canPrint_48 (by decide) (fun c48 => ?_) (fun c48 => ?_)
        ·
          replace c48 := zb0.mp c48
          exact L65 _ (fun x hx => by rw [hn1 x hx]; show _ = _ + (if b2 = true then zn2 D c p2 x else 0); rw [if_neg c48, Int.add_zero])
        ·
          replace c48 := zb1.mp c48
          have hb2q := hb2 c48
          have ho := hT.2.2.2.2 (c + 1 + p2) (by omega) (by omega)
          refine zY.aload_n hO dX11_canPrint_51 rfl ?_
          refine zY.aload_n hO dX11_canPrint_52 rfl ?_
          refine zY.iload_n hO dX11_canPrint_53 rfl ?_
          refine zY.iconst hO dX11_canPrint_54 ?_
          refine zY.iadd hO dX11_canPrint_55 ?_
          refine zY.iload_n hO dX11_canPrint_56 rfl ?_
          refine zY.iadd hO dX11_canPrint_57 ?_
          refine zY.as (b := ((c + 1 + p2 : Nat) : Int)) (by omega) ?_
          refine zY.callV1iD (ct_X11_sheetAt (hM0 _) (i := c + 1 + p2) (by omega)) (by decide) zcal_X11_sheetAt zml_X11_171 (by decide : 127 < 150) rfl rfl (Nat.le_of_ble_eq_true rfl) rfl ⟨Nat.zero_le _, Nat.zero_le _⟩ hO dX11_canPrint_58 ?_
          refine zY.as (b := (zord D (c + 1 + p2) : Int)) (by omega) ?_
          refine zY.iconst hO dX11_canPrint_61 ?_
          refine zY.callV2vD (ct_X11_addNeeds (ch := 0) (hM0 _) ho.2.1 (by omega) (zokc_0 D _)) (by decide) zcal_X11_addNeeds zml_X11_142 (by decide : 127 < 150) rfl rfl (Nat.le_of_ble_eq_true rfl) rfl ⟨Nat.zero_le _, Nat.zero_le _⟩ hO dX11_canPrint_62 ?_
          rw [zrow_row]
          exact L65 _ (fun x hx => by rw [if_pos hx, zrow_eq, hn1 x hx]; show _ = _ + (if b2 = true then zn2 D c p2 x else 0); rw [if_pos c48]; rfl)
      have hn0 : ∀ x, x < 6 → nq x = 0 := fun x hx => hJ x (by omega)
      clear hJ ih10
      refine zY.iload hO dX11_canPrint_31 rfl ?_
      refine zY.if_eq (tgt := 46) zr_b hO dX11_canPrint_33 (by decide) (fun c33 => ?_) (fun c33 => ?_)
      ·
        replace c33 := zb0.mp c33
        refine zY.none6 ?_
        exact L46 _ (fun x hx => by rw [if_neg c33]; exact hn0 x hx)
      ·
        replace c33 := zb1.mp c33
        have hb1q := hb1 c33
        have ho := hT.2.2.2.2 p1 (by omega) (by omega)
        refine zY.aload_n hO dX11_canPrint_36 rfl ?_
        refine zY.aload_n hO dX11_canPrint_37 rfl ?_
        refine zY.iload_n hO dX11_canPrint_38 rfl ?_
        refine zY.callV1iD (ct_X11_sheetAt (hM0 _) (i := p1) (by omega)) (by decide) zcal_X11_sheetAt zml_X11_171 (by decide : 127 < 150) rfl rfl (Nat.le_of_ble_eq_true rfl) rfl ⟨Nat.zero_le _, Nat.zero_le _⟩ hO dX11_canPrint_39 ?_
        refine zY.as (b := (zord D p1 : Int)) (by omega) ?_
        refine zY.iconst hO dX11_canPrint_42 ?_
        refine zY.callV2vD (ct_X11_addNeeds (ch := 0) (hM0 _) ho.2.1 (by omega) (zokc_0 D _)) (by decide) zcal_X11_addNeeds zml_X11_142 (by decide : 127 < 150) rfl rfl (Nat.le_of_ble_eq_true rfl) rfl ⟨Nat.zero_le _, Nat.zero_le _⟩ hO dX11_canPrint_43 ?_
        refine zY.none6 ?_
        rw [zrow_row]
        exact L46 _ (fun x hx => by rw [if_pos c33, if_pos hx, zrow_eq, hn0 x hx, Int.zero_add]; rfl)
    ·
      refine zY.aload_n hO dX11_canPrint_17 rfl ?_
      refine zY.getR zfl_X11_37 (by decide : 127 < 150) rfl rfl hO dX11_canPrint_18 ?_
      refine zY.iload hO dX11_canPrint_21 rfl ?_
      refine zY.iconst hO dX11_canPrint_23 ?_
      refine zY.iast (i) rfl (by omega) (by decide) (by decide : 137 < 150) rfl hO dX11_canPrint_24 ?_
      refine zY.iinc6 _ rfl (zc1_I _) hO dX11_canPrint_25 ?_
      refine zY.goto (tgt := 10) hO dX11_canPrint_28 (by decide) ?_
      have hin := ih10 (by omega) (fun x => if x = i then 0 else nq x) (fun x hx => by by_cases e : x = i; (· rw [if_pos e]); (· rw [if_neg e]; exact hJ x (by omega)))
      rw [← zwr_row] at hin
      exact hin
  have hin := L10 0 (by omega) nq (fun x h => by omega)
  rw [show zrow (zrow μ 138 hq) 137 nq = μ2 by rw [hq1]; funext q' j'; by_cases e1 : q' = 138 <;> by_cases e2 : q' = 137 <;> simp [zrow, e1, e2]] at hin
  exact hin

set_option maxRecDepth 100000 in
set_option maxHeartbeats 4000000 in
theorem ct_X11_reach {μ : zMem} {D : zBk} {K0 K1 : Option zBk} (hM : zMd D K0 K1 μ) {p1 p2 v : Int} {p : Nat} (hp : p1 * 7 + p2 = (p : Int)) (h49 : p < 49) (hv : zr v) (hz : zr (μ 145 p)) (hn : μ 145 p = -6 ∨ 0 ≤ μ 145 p) : Cv kX11_reach 1 150 zSX [zP 127, zI p1, zI p2, zI v] μ (fun μ' => μ' = zrow μ 145 (zrea (μ 145) p v)) := by
  refine Ct.of [some (zP 127), some (zI p1), some (zI p2), some (zI v), none] rfl (Nat.le_of_ble_eq_true rfl) (by decide +kernel) (fun Γ ad hO hR => ?_)
  refine zY.aload_n hO dX11_reach_0 rfl ?_
  refine zY.getR zfl_X11_61 (by decide : 127 < 150) rfl rfl hO dX11_reach_1 ?_
  refine zY.bipush hO dX11_reach_4 (by decide) ?_
  refine zY.iload_n hO dX11_reach_6 rfl ?_
  refine zY.imul hO dX11_reach_7 ?_
  refine zY.iload_n hO dX11_reach_8 rfl ?_
  refine zY.iadd hO dX11_reach_9 ?_
  refine zY.iald (p) (by omega) (by omega) (by decide) (by decide : 145 < 150) rfl hO dX11_reach_10 ?_
  refine zY.istore4 (zc1_I _) hO dX11_reach_11 ?_
  refine zY.aload_n hO dX11_reach_13 rfl ?_
  refine zY.getR zfl_X11_61 (by decide : 127 < 150) rfl rfl hO dX11_reach_14 ?_
  refine zY.bipush hO dX11_reach_17 (by decide) ?_
  refine zY.iload_n hO dX11_reach_19 rfl ?_
  refine zY.imul hO dX11_reach_20 ?_
  refine zY.iload_n hO dX11_reach_21 rfl ?_
  refine zY.iadd hO dX11_reach_22 ?_
  refine zY.iload hO dX11_reach_23 rfl ?_
  refine zY.if_lt (tgt := 34) hz hO dX11_reach_25 (by decide) (fun c25 => ?_) (fun c25 => ?_)
  ·
    refine zY.iload_n hO dX11_reach_34 rfl ?_
    refine zY.goto (tgt := 40) hO dX11_reach_35 (by decide) ?_
    refine zY.iast (p) (by omega) (by omega) (by decide) (by decide : 145 < 150) rfl hO dX11_reach_40 ?_
    exact zY.vret rfl ⟨rfl, (by show _ = _; rw [zwr_eq_row]; congr 1; funext j; unfold zrea; by_cases e : j = p; (· subst e; rw [if_pos rfl, if_pos ⟨rfl, by omega⟩]); (· rw [if_neg e, if_neg (fun z => e z.1)]))⟩ hR hO dX11_reach_41
  ·
    refine zY.iload_n hO dX11_reach_28 rfl ?_
    refine zY.iload hO dX11_reach_29 rfl ?_
    refine zY.icmp_ge (tgt := 38) hv hz hO dX11_reach_31 (by decide) (fun c31 => ?_) (fun c31 => ?_)
    ·
      refine zY.iload hO dX11_reach_38 rfl ?_
      refine zY.iast (p) (by omega) (by omega) (by decide) (by decide : 145 < 150) rfl hO dX11_reach_40 ?_
      exact zY.vret rfl ⟨rfl, (by show _ = _; rw [zwr_eq_row]; congr 1; funext j; unfold zrea; by_cases e : j = p; (· subst e; rw [if_pos rfl, if_neg (fun z => by omega)]); (· rw [if_neg e, if_neg (fun z => e z.1)]))⟩ hR hO dX11_reach_41
    ·
      refine zY.iload_n hO dX11_reach_34 rfl ?_
      refine zY.goto (tgt := 40) hO dX11_reach_35 (by decide) ?_
      refine zY.iast (p) (by omega) (by omega) (by decide) (by decide : 145 < 150) rfl hO dX11_reach_40 ?_
      exact zY.vret rfl ⟨rfl, (by show _ = _; rw [zwr_eq_row]; congr 1; funext j; unfold zrea; by_cases e : j = p; (· subst e; rw [if_pos rfl, if_pos ⟨rfl, by omega⟩]); (· rw [if_neg e, if_neg (fun z => e z.1)]))⟩ hR hO dX11_reach_41
