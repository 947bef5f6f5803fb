/-! the model: orders, fits, ahead -/
theorem zfst_0 {A F : Nat → Int} : zfst (fun x => decide (F x < A x)) 0 6 < 0 ↔ zlk A F = 0 := by
  rw [zlk_0]
  have h := zfst_b (fun x => decide (F x < A x)) 6 0
  constructor
  · intro hz x hx
    have hn := zfst_none (fun x => decide (F x < A x)) 6 0 (by omega) x (by omega) (by omega)
    rw [decide_eq_true_eq] at hn
    omega
  · intro hz
    have hn := zfst_no (p := fun x => decide (F x < A x)) (n := 6) (fun j hj => by rw [decide_eq_true_eq]; have := hz j hj; omega)
    omega
theorem zb_inn : ∀ a : Nat, a < 64 → ∀ b : Nat, b < 64 → a &&& b = a → ∀ s : Nat, s < 6 → a.testBit s = true → b.testBit s = true := by decide +kernel
/-- what is set is there -/
abbrev zsub (D : zBk) (set : Nat) : Prop := ∀ s, s < 6 → set.testBit s = true → 0 < D 4 s
theorem zsub_of {D : zBk} {set : Nat} (h64 : set < 64) (h : set &&& zthD D = set) : zsub D set := fun s hs hb => by
  have h1 := zb_inn set h64 _ (zthD_64 D) h s hs hb
  rw [zthD_bit hs] at h1
  exact of_decide_eq_true h1
theorem zsum_z {f : Nat → Int} : ∀ k, (∀ x, x < k → f x = 0) → zsum f k = 0
  | 0, _ => rfl
  | k + 1, h => by simp only [zsum]; rw [zsum_z k (fun x hx => h x (by omega)), h k (by omega)]; rfl
/-- what may follow, summed -/
def zgs (D : zBk) (want : Nat → Int) (a b : Int) (t : Nat → Int) (set : Nat) : Nat → Int := fun s => if zmy D want set s = true ∧ ¬ ((s : Int) = b ∧ set.testBit a.toNat = false) then t (set ||| 2 ^ s) else 0
theorem zwv_1 {D : zBk} {want : Nat → Int} {a b : Int} {t : Nat → Int} {set : Nat} (h : set &&& zthD D = set) : zwv D want a b t set = (if set = zthD D then 1 else 0) + zsum (zgs D want a b t set) 6 := by
  unfold zwv
  by_cases e : set = zthD D
  · rw [if_pos e, if_pos e, zsum_z 6 (fun s hs => ?_)]
    · rfl
    · unfold zgs
      rw [if_neg]
      rintro ⟨h1, -⟩
      have h2 := zmy_not h1
      rw [e, h2.2] at h2
      cases h2.1
  · rw [if_neg e, if_neg e, if_pos h]
    show _ = 0 + zsum _ 6
    rw [Int.zero_add]
    rfl
theorem zwv_0 {D : zBk} {want : Nat → Int} {a b : Int} {t : Nat → Int} {set : Nat} (h : ¬ set &&& zthD D = set) : zwv D want a b t set = 0 := by
  unfold zwv
  have e : ¬ set = zthD D := fun z => h (by rw [z]; exact Nat.and_self _)
  rw [if_neg e, if_neg h]

set_option maxRecDepth 100000 in
set_option maxHeartbeats 4000000 in
theorem ct_X11_openBehind {μ : zMem} {D : zBk} {K0 K1 : Option zBk} (hM : zMd D K0 K1 μ) {set : Nat} (h64 : set < 64) (hsub : zsub D set) : Cv kX11_openBehind 5 150 zSX [zP 127, zI (set : Int)] μ (fun μ' => ∃ n h, μ' = zrow (zrow μ 137 n) 138 h ∧ ∀ x, x < 6 → h x = zaf D set 6 x) := by
  refine Ct.of [some (zP 127), some (zI (set : Int)), none] rfl (Nat.le_of_ble_eq_true rfl) (by decide +kernel) (fun Γ ad hO hR => ?_)
  refine zY.aload_n hO dX11_openBehind_0 rfl ?_
  refine zY.callV0v (ct_X11_openCase hM) (by decide) zcal_X11_openCase zml_X11_168 (by decide : 127 < 150) rfl rfl (Nat.le_of_ble_eq_true rfl) rfl ⟨Nat.zero_le _, Nat.zero_le _⟩ hO dX11_openBehind_1 (fun μ2 hq1 => ?_)
  obtain ⟨hq, hq1, hq2⟩ := hq1
  refine zY.iconst hO dX11_openBehind_4 ?_
  refine zY.istore2 (zc1_I _) hO dX11_openBehind_5 ?_
  have L6 : ∀ i : Nat, i ≤ 6 → ∀ (μ1 : zMem) (nq hq : Nat → Int), μ1 = zrow (zrow μ 137 nq) 138 hq → (∀ x, x < 6 → hq x = zaf D set i x) → zY Γ (150, zSX, ad, 0, 0) 6 [some (zP 127), some (zI (set : Int)), some (zI (i : Int))] [] μ1 := by
    refine zdown (6) (fun i hi_i ih6 => ?_)
    intro μ1 nq hq hI hJ
    have hMi : zMd D K0 K1 μ1 := by rw [hI]; exact ((zScr.rfl'.row (by decide) (by decide)).row (by decide) (by decide) : zScr μ _).md hM
    refine zY.iload_n hO dX11_openBehind_6 rfl ?_
    refine zY.bipush hO dX11_openBehind_7 (by decide) ?_
    refine zY.icmp_ge (tgt := 36) ⟨by omega, by omega⟩ ⟨by omega, by omega⟩ hO dX11_openBehind_9 (by decide) (fun c9 => ?_) (fun c9 => ?_)
    ·
      exact zY.vret rfl ⟨rfl, ⟨nq, hq, hI, fun x hx => by rw [hJ x hx, show i = 6 by omega]⟩⟩ hR hO dX11_openBehind_36
    ·
      refine zY.iload_n hO dX11_openBehind_12 rfl ?_
      refine zY.iload_n hO dX11_openBehind_13 rfl ?_
      refine zY.ishr (c := ((set / 2 ^ i : Nat) : Int)) (zb_shr set h64 i (by omega)) hO dX11_openBehind_14 ?_
      refine zY.iconst hO dX11_openBehind_15 ?_
      have hlt : set / 2 ^ i < 64 := Nat.lt_of_le_of_lt (Nat.div_le_self _ _) h64
      have hbit := zb_bit set h64 i (by omega)
      refine zY.iand (c := ((set / 2 ^ i % 2 : Nat) : Int)) (zb_and1 _ hlt) hO dX11_openBehind_16 ?_
      refine zY.iconst hO dX11_openBehind_17 ?_
      refine zY.icmp_ne (tgt := 30) ⟨by omega, by omega⟩ ⟨by omega, by omega⟩ hO dX11_openBehind_18 (by decide) (fun c18 => ?_) (fun c18 => ?_)
      ·
        have hb : ¬ set.testBit i = true := fun z => by have := hbit.mpr z; omega
        refine zY.iinc2 _ rfl (zc1_I _) hO dX11_openBehind_30 ?_
        refine zY.goto (tgt := 6) hO dX11_openBehind_33 (by decide) ?_
        exact ih6 (by omega) _ nq hq hI (fun x hx => by simp only [zaf]; rw [if_neg hb]; exact hJ x hx)
      ·
        have hb := hbit.mp (by omega)
        have h0 := hsub i (by omega) hb
        have hbk := zbk_b 0 hM.1 (show i < 6 by omega) h0
        obtain ⟨bq, hbq⟩ : ∃ bq : Nat, zbk D i 0 = (bq : Int) := ⟨(zbk D i 0).toNat, by omega⟩
        have hbx : zbx D i 0 = (bq : Int) := (zbx_0 h0).trans hbq
        refine zY.aload_n hO dX11_openBehind_21 rfl ?_
        refine zY.aload_n hO dX11_openBehind_22 rfl ?_
        refine zY.iload_n hO dX11_openBehind_23 rfl ?_
        refine zY.callV1i (ct_X11_breaksOf hMi (s := i) (by omega) h0) (by decide) zcal_X11_breaksOf zml_X11_156 (by decide : 127 < 150) rfl rfl (Nat.le_of_ble_eq_true rfl) rfl ⟨Nat.zero_le _, Nat.zero_le _⟩ hO dX11_openBehind_24 (fun aq μ3 hq3 => ?_)
        obtain ⟨rfl, n3q, hq4, hq5⟩ := hq3
        refine zY.as hbq ?_
        refine zY.callV1vD (ct_X11_lose (x := bq) (by omega) (by rw [hq4, zrow_ne (by decide), hI, zrow_eq, hJ bq (by omega)]; have hz := zaf_b hM.1 set (show bq < 6 by omega) i; omega)) (by decide) zcal_X11_lose zml_X11_177 (by decide : 127 < 150) rfl rfl (Nat.le_of_ble_eq_true rfl) rfl ⟨Nat.zero_le _, Nat.zero_le _⟩ hO dX11_openBehind_27 ?_
        refine zY.iinc2 _ rfl (zc1_I _) hO dX11_openBehind_30 ?_
        refine zY.goto (tgt := 6) hO dX11_openBehind_33 (by decide) ?_
        exact ih6 (by omega) _ n3q (zls hq (bq : Int)) (by rw [hq4, hI, zrow_ne (q := 137) (q' := 138) (by decide), zrow_eq]; funext q' j'; by_cases e1 : q' = 138 <;> by_cases e2 : q' = 137 <;> simp [zrow, e1, e2]) (fun x hx => by simp only [zaf]; rw [if_pos hb, hbx]; exact zls_congr (hJ x hx))
  exact L6 0 (by omega) μ2 (μ 137) hq (by rw [hq1, zrow_self (q := 137) (fun _ => rfl)]) hq2

set_option maxRecDepth 100000 in
set_option maxHeartbeats 4000000 in
theorem ct_X11_canBehind {μ : zMem} {D : zBk} {K0 K1 : Option zBk} (hM : zMd D K0 K1 μ) {set s : Nat} (h64 : set < 64) (hsub : zsub D set) (hs : s < 6) : Ci kX11_canBehind 6 150 zSX [zP 127, zI (set : Int), zI (s : Int)] μ (fun r μ' => r = (if zlk (znd D s 0) (zaf D set 6) = 0 then 1 else 0) ∧ ∃ n h, μ' = zrow (zrow μ 137 n) 138 h) := by
  refine Ct.of [some (zP 127), some (zI (set : Int)), some (zI (s : Int))] rfl (Nat.le_of_ble_eq_true rfl) (by decide +kernel) (fun Γ ad hO hR => ?_)
  refine zY.aload_n hO dX11_canBehind_0 rfl ?_
  refine zY.iload_n hO dX11_canBehind_1 rfl ?_
  refine zY.callV1v (ct_X11_openBehind hM h64 hsub) (by decide) zcal_X11_openBehind zml_X11_186 (by decide : 127 < 150) rfl rfl (Nat.le_of_ble_eq_true rfl) rfl ⟨Nat.zero_le _, Nat.zero_le _⟩ hO dX11_canBehind_2 (fun μ2 hq1 => ?_)
  obtain ⟨nq, hq, hq1, hq2⟩ := hq1
  have hM2 : zMd D K0 K1 μ2 := by rw [hq1]; exact ((zScr.rfl'.row (by decide) (by decide)).row (by decide) (by decide) : zScr μ _).md hM
  refine zY.aload_n hO dX11_canBehind_5 rfl ?_
  refine zY.iload_n hO dX11_canBehind_6 rfl ?_
  refine zY.iconst hO dX11_canBehind_7 ?_
  refine zY.callV2v (ct_X11_findNeeds (ch := 0) hM2 hs (by omega) (zokc_0 D _)) (by decide) zcal_X11_findNeeds zml_X11_149 (by decide : 127 < 150) rfl rfl (Nat.le_of_ble_eq_true rfl) rfl ⟨Nat.zero_le _, Nat.zero_le _⟩ hO dX11_canBehind_8 (fun μ3 hq3 => ?_)
  obtain ⟨n3q, hq3, hq4⟩ := hq3
  have hn3 : ∀ x, x < 6 → μ3 137 x = znd D s 0 x := fun x hx => by rw [hq3, zrow_eq]; exact hq4 x hx
  have hl3 : ∀ x, x < 6 → μ3 138 x = zaf D set 6 x := fun x hx => by rw [hq3, zrow_ne (by decide), hq1, zrow_eq]; exact hq2 x hx
  have hrz : ∀ x, x < 6 → -1000 ≤ znd D s 0 x ∧ znd D s 0 x ≤ 1000 ∧ -1000 ≤ zaf D set 6 x ∧ zaf D set 6 x ≤ 1000 := fun x hx => by have h1q := znd_b (ch := 0) x hM.1 hs; have h2q := zaf_b hM.1 set hx 6; omega
  have hm3 : μ3 = zrow (zrow μ 137 n3q) 138 hq := by rw [hq3, hq1]; funext q' j'; by_cases e1 : q' = 138 <;> by_cases e2 : q' = 137 <;> simp [zrow, e1, e2]
  refine zY.aload_n hO dX11_canBehind_11 rfl ?_
  refine zY.callV0iD (ct_X11_lacking hn3 hl3 hrz) (by decide) zcal_X11_lacking zml_X11_174 (by decide : 127 < 150) rfl rfl (Nat.le_of_ble_eq_true rfl) rfl ⟨Nat.zero_le _, Nat.zero_le _⟩ hO dX11_canBehind_12 ?_
  have hfz := zfst_0 (A := znd D s 0) (F := zaf D set 6)
  have hfb := zfst_b (fun x => decide (zaf D set 6 x < znd D s 0 x)) 6 0
  refine zY.if_ge (tgt := 22) ⟨by omega, by omega⟩ hO dX11_canBehind_15 (by decide) (fun c15 => ?_) (fun c15 => ?_)
  ·
    refine zY.iconst hO dX11_canBehind_22 ?_
    exact zY.zret (by omega) rfl ⟨_, rfl, ⟨by rw [if_neg (fun z => by have := hfz.mpr z; omega)], n3q, hq, hm3⟩⟩ hR hO dX11_canBehind_23
  ·
    refine zY.iconst hO dX11_canBehind_18 ?_
    refine zY.goto (tgt := 23) hO dX11_canBehind_19 (by decide) ?_
    exact zY.zret (by omega) rfl ⟨_, rfl, ⟨by rw [if_pos (hfz.mp (by omega))], n3q, hq, hm3⟩⟩ hR hO dX11_canBehind_23

set_option maxRecDepth 100000 in
set_option maxHeartbeats 4000000 in
theorem ct_X11_isSeen {μ : zMem} {D : zBk} {K0 K1 : Option zBk} (hM : zMd D K0 K1 μ) {set s : Nat} (h64 : set < 64) (hsub : zsub D set) (hs : s < 6) : Ci kX11_isSeen 6 150 zSX [zP 127, zI (set : Int), zI (s : Int)] μ (fun r μ' => r = (if D 7 s = -6 ∨ zlk (znd D s 0) (zaf D set 6) = D 7 s then 1 else 0) ∧ ∃ n h, μ' = zrow (zrow μ 137 n) 138 h) := by
  refine Ct.of [some (zP 127), some (zI (set : Int)), some (zI (s : Int)), none, none] rfl (Nat.le_of_ble_eq_true rfl) (by decide +kernel) (fun Γ ad hO hR => ?_)
  have hsz := hM.1.2.1 s hs
  refine zY.aload_n hO dX11_isSeen_0 rfl ?_
  refine zY.getR zfl_X11_31 (by decide : 127 < 150) rfl rfl hO dX11_isSeen_1 ?_
  refine zY.iload_n hO dX11_isSeen_4 rfl ?_
  refine zY.iald (s) rfl (by omega) (by decide) (by decide : 135 < 150) rfl hO dX11_isSeen_5 ?_
  refine zY.as (b := D 7 s) (hM.2.1.1 7 (by omega) (by omega) s hs) ?_
  refine zY.if_ge (tgt := 11) ⟨by omega, by omega⟩ hO dX11_isSeen_6 (by decide) (fun c6 => ?_) (fun c6 => ?_)
  ·
    refine zY.aload_n hO dX11_isSeen_11 rfl ?_
    refine zY.iload_n hO dX11_isSeen_12 rfl ?_
    refine zY.callV1v (ct_X11_openBehind hM h64 hsub) (by decide) zcal_X11_openBehind zml_X11_186 (by decide : 127 < 150) rfl rfl (Nat.le_of_ble_eq_true rfl) rfl ⟨Nat.zero_le _, Nat.zero_le _⟩ hO dX11_isSeen_13 (fun μ2 hq1 => ?_)
    obtain ⟨nq, hq, hq1, hq2⟩ := hq1
    have hM2 : zMd D K0 K1 μ2 := by rw [hq1]; exact ((zScr.rfl'.row (by decide) (by decide)).row (by decide) (by decide) : zScr μ _).md hM
    refine zY.aload_n hO dX11_isSeen_16 rfl ?_
    refine zY.iload_n hO dX11_isSeen_17 rfl ?_
    refine zY.iconst hO dX11_isSeen_18 ?_
    refine zY.callV2v (ct_X11_findNeeds (ch := 0) hM2 hs (by omega) (zokc_0 D _)) (by decide) zcal_X11_findNeeds zml_X11_149 (by decide : 127 < 150) rfl rfl (Nat.le_of_ble_eq_true rfl) rfl ⟨Nat.zero_le _, Nat.zero_le _⟩ hO dX11_isSeen_19 (fun μ3 hq3 => ?_)
    obtain ⟨n3q, hq3, hq4⟩ := hq3
    have hn3 : ∀ x, x < 6 → μ3 137 x = znd D s 0 x := fun x hx => by rw [hq3, zrow_eq]; exact hq4 x hx
    have hl3 : ∀ x, x < 6 → μ3 138 x = zaf D set 6 x := fun x hx => by rw [hq3, zrow_ne (by decide), hq1, zrow_eq]; exact hq2 x hx
    have hrz : ∀ x, x < 6 → -1000 ≤ znd D s 0 x ∧ znd D s 0 x ≤ 1000 ∧ -1000 ≤ zaf D set 6 x ∧ zaf D set 6 x ≤ 1000 := fun x hx => by have h1q := znd_b (ch := 0) x hM.1 hs; have h2q := zaf_b hM.1 set hx 6; omega
    have hm3 : μ3 = zrow (zrow μ 137 n3q) 138 hq := by rw [hq3, hq1]; funext q' j'; by_cases e1 : q' = 138 <;> by_cases e2 : q' = 137 <;> simp [zrow, e1, e2]
    refine zY.iconst hO dX11_isSeen_22 ?_
    refine zY.istore3 (zc1_I _) hO dX11_isSeen_23 ?_
    refine zY.iconst hO dX11_isSeen_24 ?_
    refine zY.istore4 (zc1_I _) hO dX11_isSeen_25 ?_
    have L27 : ∀ i : Nat, i ≤ 6 → zY Γ (150, zSX, ad, 0, 0) 27 [some (zP 127), some (zI (set : Int)), some (zI (s : Int)), some (zI (zsum (fun x => max 0 (znd D s 0 x - zaf D set 6 x)) i)), some (zI (i : Int))] [] μ3 := by
      refine zdown (6) (fun i hi_i ih27 => ?_)
      refine zY.iload hO dX11_isSeen_27 rfl ?_
      refine zY.bipush hO dX11_isSeen_29 (by decide) ?_
      refine zY.icmp_ge (tgt := 79) ⟨by omega, by omega⟩ ⟨by omega, by omega⟩ hO dX11_isSeen_31 (by decide) (fun c31 => ?_) (fun c31 => ?_)
      ·
        have hi6 : i = 6 := by omega
        subst hi6
        have hzk := zlk_b hrz
        have hzk2 : zsum (fun x => max 0 (znd D s 0 x - zaf D set 6 x)) 6 = zlk (znd D s 0) (zaf D set 6) := rfl
        refine zY.iload_n hO dX11_isSeen_79 rfl ?_
        refine zY.aload_n hO dX11_isSeen_80 rfl ?_
        refine zY.getR zfl_X11_31 (by decide : 127 < 150) rfl rfl hO dX11_isSeen_81 ?_
        refine zY.iload_n hO dX11_isSeen_84 rfl ?_
        refine zY.iald (s) rfl (by omega) (by decide) (by decide : 135 < 150) rfl hO dX11_isSeen_85 ?_
        refine zY.as (b := D 7 s) (by rw [hm3, zrow_ne (by decide), zrow_ne (by decide)]; exact hM.2.1.1 7 (by omega) (by omega) s hs) ?_
        refine zY.icmp_ne (tgt := 93) ⟨by omega, by omega⟩ ⟨by omega, by omega⟩ hO dX11_isSeen_86 (by decide) (fun c86 => ?_) (fun c86 => ?_)
        ·
          refine zY.iconst hO dX11_isSeen_93 ?_
          exact zY.zret (by omega) rfl ⟨_, rfl, ⟨by rw [if_neg (by omega)], n3q, hq, hm3⟩⟩ hR hO dX11_isSeen_94
        ·
          refine zY.iconst hO dX11_isSeen_89 ?_
          refine zY.goto (tgt := 94) hO dX11_isSeen_90 (by decide) ?_
          exact zY.zret (by omega) rfl ⟨_, rfl, ⟨by rw [if_pos (by omega)], n3q, hq, hm3⟩⟩ hR hO dX11_isSeen_94
      ·
        refine zY.iload_n hO dX11_isSeen_34 rfl ?_
        refine zY.aload_n hO dX11_isSeen_35 rfl ?_
        refine zY.getR zfl_X11_37 (by decide : 127 < 150) rfl rfl hO dX11_isSeen_36 ?_
        refine zY.iload hO dX11_isSeen_39 rfl ?_
        refine zY.iald (i) rfl (by omega) (by decide) (by decide : 137 < 150) rfl hO dX11_isSeen_41 ?_
        have hri := hrz i (by omega)
        refine zY.as (b := znd D s 0 i) (hn3 i (by omega)) ?_
        refine zY.aload_n hO dX11_isSeen_42 rfl ?_
        refine zY.getR zfl_X11_40 (by decide : 127 < 150) rfl rfl hO dX11_isSeen_43 ?_
        refine zY.iload hO dX11_isSeen_46 rfl ?_
        refine zY.iald (i) rfl (by omega) (by decide) (by decide : 138 < 150) rfl hO dX11_isSeen_48 ?_
        refine zY.as (b := zaf D set 6 i) (hl3 i (by omega)) ?_
        refine zY.icmp_le (tgt := 70) ⟨by omega, by omega⟩ ⟨by omega, by omega⟩ hO dX11_isSeen_49 (by decide) (fun c49 => ?_) (fun c49 => ?_)
        ·
          refine zY.iconst hO dX11_isSeen_70 ?_
          refine zY.as (b := max 0 (znd D s 0 i - zaf D set 6 i)) (by omega) ?_
          refine zY.iadd hO dX11_isSeen_71 ?_
          refine zY.istore3 (zc1_I _) hO dX11_isSeen_72 ?_
          refine zY.iinc4 _ rfl (zc1_I _) hO dX11_isSeen_73 ?_
          refine zY.goto (tgt := 27) hO dX11_isSeen_76 (by decide) ?_
          exact ih27 (by omega)
        ·
          refine zY.aload_n hO dX11_isSeen_52 rfl ?_
          refine zY.getR zfl_X11_37 (by decide : 127 < 150) rfl rfl hO dX11_isSeen_53 ?_
          refine zY.iload hO dX11_isSeen_56 rfl ?_
          refine zY.iald (i) rfl (by omega) (by decide) (by decide : 137 < 150) rfl hO dX11_isSeen_58 ?_
          refine zY.as (b := znd D s 0 i) (hn3 i (by omega)) ?_
          refine zY.aload_n hO dX11_isSeen_59 rfl ?_
          refine zY.getR zfl_X11_40 (by decide : 127 < 150) rfl rfl hO dX11_isSeen_60 ?_
          refine zY.iload hO dX11_isSeen_63 rfl ?_
          refine zY.iald (i) rfl (by omega) (by decide) (by decide : 138 < 150) rfl hO dX11_isSeen_65 ?_
          refine zY.as (b := zaf D set 6 i) (hl3 i (by omega)) ?_
          refine zY.isub hO dX11_isSeen_66 ?_
          refine zY.goto (tgt := 71) hO dX11_isSeen_67 (by decide) ?_
          refine zY.as (b := max 0 (znd D s 0 i - zaf D set 6 i)) (by omega) ?_
          refine zY.iadd hO dX11_isSeen_71 ?_
          refine zY.istore3 (zc1_I _) hO dX11_isSeen_72 ?_
          refine zY.iinc4 _ rfl (zc1_I _) hO dX11_isSeen_73 ?_
          refine zY.goto (tgt := 27) hO dX11_isSeen_76 (by decide) ?_
          exact ih27 (by omega)
    exact L27 0 (by omega)
  ·
    refine zY.iconst hO dX11_isSeen_9 ?_
    exact zY.zret (by omega) rfl ⟨_, rfl, ⟨by rw [if_pos (Or.inl (by omega))], μ 137, μ 138, by rw [zrow_self (q := 137) (fun _ => rfl), zrow_self (fun _ => rfl)]⟩⟩ hR hO dX11_isSeen_10

set_option maxRecDepth 100000 in
set_option maxHeartbeats 4000000 in
theorem ct_X11_findOrders {μ : zMem} {D : zBk} {K0 K1 : Option zBk} (hM : zMd D K0 K1 μ)  : Cv kX11_findOrders 7 150 zSX [zP 127] μ (fun μ' => zScr μ μ' ∧ ∀ j, j < 64 → μ' 140 j = zwt D zno (-6) (-6) 64 j) := by
  refine Ct.of [some (zP 127), none, none, none, none] rfl (Nat.le_of_ble_eq_true rfl) (by decide +kernel) (fun Γ ad hO hR => ?_)
  refine zY.aload_n hO dX11_findOrders_0 rfl ?_
  refine zY.callV0iD (ct_X11_there hM) (by decide) zcal_X11_there zml_X11_96 (by decide : 127 < 150) rfl rfl (Nat.le_of_ble_eq_true rfl) rfl ⟨Nat.zero_le _, Nat.zero_le _⟩ hO dX11_findOrders_1 ?_
  refine zY.istore1 (zc1_P _) hO dX11_findOrders_4 ?_
  refine zY.bipush hO dX11_findOrders_5 (by decide) ?_
  refine zY.istore2 (zc1_I _) hO dX11_findOrders_7 ?_
  have L8 : ∀ i : Nat, i ≤ 64 → ∀ (μ1 : zMem), zScr μ μ1 → (∀ j, 64 ≤ j + i → j < 64 → μ1 140 j = zwt D zno (-6) (-6) i j) → zY Γ (150, zSX, ad, 0, 0) 8 [some (zP 127), some (zI (zthD D : Int)), some (zI (63 - (i : Int))), none, none] [] μ1 := by
    refine zdown (64) (fun i hi_i ih8 => ?_)
    intro μ1 hsc hJ
    have hMi := hsc.md hM
    have hth := zthD_64 D
    refine zY.iload_n hO dX11_findOrders_8 rfl ?_
    refine zY.if_lt (tgt := 117) ⟨by omega, by omega⟩ hO dX11_findOrders_9 (by decide) (fun c9 => ?_) (fun c9 => ?_)
    ·
      exact zY.vret rfl ⟨rfl, ⟨hsc, fun j hj => by rw [hJ j (by omega) hj, show i = 64 by omega]⟩⟩ hR hO dX11_findOrders_117
    ·
      obtain ⟨sq, hsq⟩ : ∃ sq : Nat, sq = 63 - i := ⟨_, rfl⟩
      have hsq64 : sq < 64 := by omega
      rw [show (63 - (i : Int)) = (sq : Int) by omega]
      refine zY.aload_n hO dX11_findOrders_12 rfl ?_
      refine zY.getR zfl_X11_46 (by decide : 127 < 150) rfl rfl hO dX11_findOrders_13 ?_
      refine zY.iload_n hO dX11_findOrders_16 rfl ?_
      refine zY.iload_n hO dX11_findOrders_17 rfl ?_
      refine zY.iload_n hO dX11_findOrders_18 rfl ?_
      have L28 : ∀ (μ2 : zMem), zScr μ μ2 → (∀ j, 64 ≤ j + i → j < 64 → μ2 140 j = zwt D zno (-6) (-6) i j) → μ2 140 sq = (if sq = zthD D then 1 else 0) → zY Γ (150, zSX, ad, 0, 0) 28 [some (zP 127), some (zI (zthD D : Int)), some (zI (sq : Int)), none, none] [] μ2 := by
        intro μ2 hsc2 hJ2 hB2
        refine zY.iload_n hO dX11_findOrders_28 rfl ?_
        refine zY.iload_n hO dX11_findOrders_29 rfl ?_
        refine zY.iconst hO dX11_findOrders_30 ?_
        refine zY.ixor (c := (-1 - (zthD D : Int))) (zb_not _ hth) hO dX11_findOrders_31 ?_
        refine zY.iand (c := ((sq - (sq &&& zthD D) : Nat) : Int)) (zb_andn _ hsq64 _ hth) hO dX11_findOrders_32 ?_
        refine zY.if_ne (tgt := 111) ⟨by omega, by omega⟩ hO dX11_findOrders_33 (by decide) (fun c33 => ?_) (fun c33 => ?_)
        ·
          have hns : ¬ sq &&& zthD D = sq := fun z => by have := (zb_sub0 _ hsq64 _ hth).mpr z; omega
          refine zY.iinc2 (63 - ((i + 1 : Nat) : Int)) (by omega) (zc1_I _) hO dX11_findOrders_111 ?_
          refine zY.goto (tgt := 8) hO dX11_findOrders_114 (by decide) ?_
          refine ih8 (by omega) μ2 (by assumption) (fun j h1 h2 => ?_)
          simp only [zwt]
          by_cases e : j = 63 - i
          · rw [if_pos e, e, ← hsq]
            rw [zwv_0 hns, hB2, if_neg (fun z => hns (by rw [z]; exact Nat.and_self _))]
          · rw [if_neg e]
            exact hJ2 j (by omega) h2
        ·
          have hin0 : sq &&& zthD D = sq := (zb_sub0 _ hsq64 _ hth).mp (by omega)
          have hsub := zsub_of hsq64 hin0
          refine zY.iconst hO dX11_findOrders_36 ?_
          refine zY.istore3 (zc1_I _) hO dX11_findOrders_37 ?_
          have L38 : ∀ k : Nat, k ≤ 6 → ∀ (μ3 : zMem), zScr μ μ3 → (∀ j, 64 ≤ j + i → j < 64 → μ3 140 j = zwt D zno (-6) (-6) i j) → μ3 140 sq = (if sq = zthD D then 1 else 0) + zsum (zgs D zno (-6) (-6) (zwt D zno (-6) (-6) i) sq) k → zY Γ (150, zSX, ad, 0, 0) 38 [some (zP 127), some (zI (zthD D : Int)), some (zI (sq : Int)), some (zI (k : Int)), none] [] μ3 := by
            refine zdown (6) (fun k hi_k ih38 => ?_)
            intro μ3 hsc3 hJ3 hB3
            have hM3 := hsc3.md hM
            refine zY.iload_n hO dX11_findOrders_38 rfl ?_
            refine zY.bipush hO dX11_findOrders_39 (by decide) ?_
            refine zY.icmp_ge (tgt := 111) ⟨by omega, by omega⟩ ⟨by omega, by omega⟩ hO dX11_findOrders_41 (by decide) (fun c41 => ?_) (fun c41 => ?_)
            ·
              refine zY.iinc2 (63 - ((i + 1 : Nat) : Int)) (by omega) (zc1_I _) hO dX11_findOrders_111 ?_
              refine zY.goto (tgt := 8) hO dX11_findOrders_114 (by decide) ?_
              refine zY.none3 ?_
              refine ih8 (by omega) μ3 (by assumption) (fun j h1 h2 => ?_)
              simp only [zwt]
              by_cases e : j = 63 - i
              · rw [if_pos e, e, ← hsq]
                rw [zwv_1 hin0, hB3, show k = 6 by omega]
              · rw [if_neg e]
                exact hJ3 j (by omega) h2
            ·
              refine zY.iload_n hO dX11_findOrders_44 rfl ?_
              refine zY.iload_n hO dX11_findOrders_45 rfl ?_
              refine zY.ishr (c := ((zthD D / 2 ^ k : Nat) : Int)) (zb_shr _ hth k (by omega)) hO dX11_findOrders_46 ?_
              refine zY.iconst hO dX11_findOrders_47 ?_
              have hlt : zthD D / 2 ^ k < 64 := Nat.lt_of_le_of_lt (Nat.div_le_self _ _) hth
              have hbit := zb_bit _ hth k (by omega)
              refine zY.iand (c := ((zthD D / 2 ^ k % 2 : Nat) : Int)) (zb_and1 _ hlt) hO dX11_findOrders_48 ?_
              refine zY.iconst hO dX11_findOrders_49 ?_
              have L75 : ∀ (eq : Int) (μ5 : zMem), ((eq = 1 ∧ zmy D zno sq k = true) ∨ (eq = 0 ∧ zmy D zno sq k = false)) → zScr μ μ5 → μ5 140 = μ3 140 → zY Γ (150, zSX, ad, 0, 0) 75 [some (zP 127), some (zI (zthD D : Int)), some (zI (sq : Int)), some (zI (k : Int)), none] [zI eq] μ5 := by
                intro eq μ5 heq hsc5 h140
                refine zY.istore4 (zc1_I _) hO dX11_findOrders_75 ?_
                refine zY.aload_n hO dX11_findOrders_77 rfl ?_
                refine zY.getR zfl_X11_46 (by decide : 127 < 150) rfl rfl hO dX11_findOrders_78 ?_
                refine zY.iload_n hO dX11_findOrders_81 rfl ?_
                refine zY.dup2 rfl rfl hO dX11_findOrders_82 ?_
                refine zY.iald (sq) rfl (by omega) (by decide) (by decide : 140 < 150) rfl hO dX11_findOrders_83 ?_
                refine zY.as (b := (if sq = zthD D then 1 else 0) + zsum (zgs D zno (-6) (-6) (zwt D zno (-6) (-6) i) sq) k) (by rw [h140]; exact hB3) ?_
                refine zY.iload hO dX11_findOrders_84 rfl ?_
                refine zY.if_eq (tgt := 102) ⟨by omega, by omega⟩ hO dX11_findOrders_86 (by decide) (fun c86 => ?_) (fun c86 => ?_)
                ·
                  refine zY.iconst hO dX11_findOrders_102 ?_
                  refine zY.iadd hO dX11_findOrders_103 ?_
                  refine zY.iast (sq) rfl (by omega) (by decide) (by decide : 140 < 150) rfl hO dX11_findOrders_104 ?_
                  refine zY.iinc3 _ rfl (zc1_I _) hO dX11_findOrders_105 ?_
                  refine zY.goto (tgt := 38) hO dX11_findOrders_108 (by decide) ?_
                  refine zY.none4 ?_
                  refine ih38 (by omega) (zwr μ5 140 sq ((if sq = zthD D then 1 else 0) + zsum (zgs D zno (-6) (-6) (zwt D zno (-6) (-6) i) sq) k + 0)) (hsc5.wr (by decide) (by decide)) (fun j h1 h2 => by simp only [zwr]; rw [if_pos trivial, if_neg (by omega), h140]; exact hJ3 j h1 h2) ?_
                  show (if 140 = 140 then (if sq = sq then (if sq = zthD D then 1 else 0) + zsum (zgs D zno (-6) (-6) (zwt D zno (-6) (-6) i) sq) k + 0 else _) else _) = _
                  rw [if_pos rfl, if_pos rfl]
                  simp only [zsum]
                  rw [show zgs D zno (-6) (-6) (zwt D zno (-6) (-6) i) sq k = 0 by unfold zgs; rw [if_neg (fun z => by rcases heq with h | h; (· omega); (· rw [h.2] at z; cases z.1))]]
                  omega
                ·
                  refine zY.aload_n hO dX11_findOrders_89 rfl ?_
                  refine zY.getR zfl_X11_46 (by decide : 127 < 150) rfl rfl hO dX11_findOrders_90 ?_
                  refine zY.iload_n hO dX11_findOrders_93 rfl ?_
                  refine zY.iconst hO dX11_findOrders_94 ?_
                  refine zY.iload_n hO dX11_findOrders_95 rfl ?_
                  refine zY.ishl (c := ((2 ^ k : Nat) : Int)) (zb_shl k (by omega)) hO dX11_findOrders_96 ?_
                  refine zY.ior (c := ((sq ||| 2 ^ k : Nat) : Int)) (zb_or _ hsq64 _ (zb_two k (by omega))) hO dX11_findOrders_97 ?_
                  refine zY.iald (sq ||| 2 ^ k) rfl (zb_lt64 sq hsq64 k (by omega)) (by decide) (by decide : 140 < 150) rfl hO dX11_findOrders_98 ?_
                  have hb5 := (zmy_not (D := D) (want := zno) (set := sq) (s := k) (by rcases heq with h | h; (· exact h.2); (· omega))).1
                  have hgt5 := zb_gt sq hsq64 k (by omega) hb5
                  refine zY.as (b := zwt D zno (-6) (-6) i (sq ||| 2 ^ k)) (by rw [h140]; exact hJ3 _ (by omega) (zb_lt64 sq hsq64 k (by omega))) ?_
                  refine zY.goto (tgt := 103) hO dX11_findOrders_99 (by decide) ?_
                  refine zY.iadd hO dX11_findOrders_103 ?_
                  refine zY.iast (sq) rfl (by omega) (by decide) (by decide : 140 < 150) rfl hO dX11_findOrders_104 ?_
                  refine zY.iinc3 _ rfl (zc1_I _) hO dX11_findOrders_105 ?_
                  refine zY.goto (tgt := 38) hO dX11_findOrders_108 (by decide) ?_
                  refine zY.none4 ?_
                  refine ih38 (by omega) (zwr μ5 140 sq ((if sq = zthD D then 1 else 0) + zsum (zgs D zno (-6) (-6) (zwt D zno (-6) (-6) i) sq) k + zwt D zno (-6) (-6) i (sq ||| 2 ^ k))) (hsc5.wr (by decide) (by decide)) (fun j h1 h2 => by simp only [zwr]; rw [if_pos trivial, if_neg (by omega), h140]; exact hJ3 j h1 h2) ?_
                  show (if 140 = 140 then (if sq = sq then (if sq = zthD D then 1 else 0) + zsum (zgs D zno (-6) (-6) (zwt D zno (-6) (-6) i) sq) k + zwt D zno (-6) (-6) i (sq ||| 2 ^ k) else _) else _) = _
                  rw [if_pos rfl, if_pos rfl]
                  simp only [zsum]
                  rw [show zgs D zno (-6) (-6) (zwt D zno (-6) (-6) i) sq k = zwt D zno (-6) (-6) i (sq ||| 2 ^ k) by unfold zgs; rw [if_pos ⟨by rcases heq with h | h; (· exact h.2); (· omega), fun z => by omega⟩]]
                  omega
              refine zY.icmp_ne (tgt := 74) ⟨by omega, by omega⟩ ⟨by omega, by omega⟩ hO dX11_findOrders_50 (by decide) (fun c50 => ?_) (fun c50 => ?_)
              ·
                have hmn : zmy D zno sq k = false := by unfold zmy; rw [show (zthD D).testBit k = false from eq_false_of_ne_true (fun z => by have := hbit.mpr z; omega)]; rfl
                refine zY.iconst hO dX11_findOrders_74 ?_
                exact L75 _ _ (Or.inr ⟨rfl, hmn⟩) hsc3 rfl
              ·
                have hb1 := hbit.mp (by omega)
                refine zY.iload_n hO dX11_findOrders_53 rfl ?_
                refine zY.iload_n hO dX11_findOrders_54 rfl ?_
                refine zY.ishr (c := ((sq / 2 ^ k : Nat) : Int)) (zb_shr _ hsq64 k (by omega)) hO dX11_findOrders_55 ?_
                refine zY.iconst hO dX11_findOrders_56 ?_
                have hlt2 : sq / 2 ^ k < 64 := Nat.lt_of_le_of_lt (Nat.div_le_self _ _) hsq64
                have hbit2 := zb_bit _ hsq64 k (by omega)
                refine zY.iand (c := ((sq / 2 ^ k % 2 : Nat) : Int)) (zb_and1 _ hlt2) hO dX11_findOrders_57 ?_
                refine zY.if_ne (tgt := 74) ⟨by omega, by omega⟩ hO dX11_findOrders_58 (by decide) (fun c58 => ?_) (fun c58 => ?_)
                ·
                  have hmn : zmy D zno sq k = false := by unfold zmy; rw [show sq.testBit k = true from hbit2.mp (by omega)]; simp
                  refine zY.iconst hO dX11_findOrders_74 ?_
                  exact L75 _ _ (Or.inr ⟨rfl, hmn⟩) hsc3 rfl
                ·
                  have hb2 : sq.testBit k = false := eq_false_of_ne_true (fun z => by have := hbit2.mpr z; omega)
                  refine zY.aload_n hO dX11_findOrders_61 rfl ?_
                  refine zY.iload_n hO dX11_findOrders_62 rfl ?_
                  refine zY.iload_n hO dX11_findOrders_63 rfl ?_
                  refine zY.callV2i (ct_X11_canBehind hM3 hsq64 hsub (s := k) (by omega)) (by decide) zcal_X11_canBehind zml_X11_189 (by decide : 127 < 150) rfl rfl (Nat.le_of_ble_eq_true rfl) rfl ⟨Nat.zero_le _, Nat.zero_le _⟩ hO dX11_findOrders_64 (fun aq μ4 hq4 => ?_)
                  obtain ⟨rfl, n4q, h4q, hq5⟩ := hq4
                  have hsc4 : zScr μ μ4 := by rw [hq5]; exact (hsc3.row (by decide) (by decide)).row (by decide) (by decide)
                  have h140 : μ4 140 = μ3 140 := by rw [hq5, zrow_ne (by decide), zrow_ne (by decide)]
                  refine zY.if_eq (tgt := 74) zr_b hO dX11_findOrders_67 (by decide) (fun c67 => ?_) (fun c67 => ?_)
                  ·
                    replace c67 := zb0.mp c67
                    have hmn : zmy D zno sq k = false := by unfold zmy; rw [hb1, hb2]; simp; exact ⟨by unfold zno; decide, c67⟩
                    refine zY.iconst hO dX11_findOrders_74 ?_
                    exact L75 _ _ (Or.inr ⟨rfl, hmn⟩) hsc4 h140
                  ·
                    replace c67 := zb1.mp c67
                    have hmy : zmy D zno sq k = true := by unfold zmy; rw [hb1, hb2]; simp; exact Or.inr c67
                    refine zY.iconst hO dX11_findOrders_70 ?_
                    refine zY.goto (tgt := 75) hO dX11_findOrders_71 (by decide) ?_
                    exact L75 _ _ (Or.inl ⟨rfl, hmy⟩) hsc4 h140
          exact L38 0 (by omega) μ2 hsc2 hJ2 (by rw [hB2]; simp [zsum])
      refine zY.icmp_ne (tgt := 26) ⟨by omega, by omega⟩ ⟨by omega, by omega⟩ hO dX11_findOrders_19 (by decide) (fun c19 => ?_) (fun c19 => ?_)
      ·
        refine zY.iconst hO dX11_findOrders_26 ?_
        refine zY.iast (sq) rfl (by omega) (by decide) (by decide : 140 < 150) rfl hO dX11_findOrders_27 ?_
        exact L28 _ (hsc.wr (by decide) (by decide)) (fun j h1 h2 => by simp only [zwr]; rw [if_pos trivial, if_neg (by omega)]; exact hJ j h1 h2) (by simp only [zwr]; rw [if_pos trivial, if_pos trivial, if_neg (by omega)])
      ·
        refine zY.iconst hO dX11_findOrders_22 ?_
        refine zY.goto (tgt := 27) hO dX11_findOrders_23 (by decide) ?_
        refine zY.iast (sq) rfl (by omega) (by decide) (by decide : 140 < 150) rfl hO dX11_findOrders_27 ?_
        exact L28 _ (hsc.wr (by decide) (by decide)) (fun j h1 h2 => by simp only [zwr]; rw [if_pos trivial, if_neg (by omega)]; exact hJ j h1 h2) (by simp only [zwr]; rw [if_pos trivial, if_pos trivial, if_pos (by omega)])
  exact L8 0 (by omega) μ zScr.rfl' (fun j h1 h2 => by omega)

set_option maxRecDepth 100000 in
set_option maxHeartbeats 4000000 in
theorem ct_X11_orders {μ : zMem} {D : zBk} {K0 K1 : Option zBk} (hM : zMd D K0 K1 μ)  : Ci kX11_orders 8 150 zSX [zP 127] μ (fun a μ' => a = zA_orders D ∧ zScr μ μ') := by
  refine Ct.of [some (zP 127)] rfl (Nat.le_of_ble_eq_true rfl) (by decide +kernel) (fun Γ ad hO hR => ?_)
  refine zY.aload_n hO dX11_orders_0 rfl ?_
  refine zY.callV0v (ct_X11_findOrders hM) (by decide) zcal_X11_findOrders zml_X11_193 (by decide : 127 < 150) rfl rfl (Nat.le_of_ble_eq_true rfl) rfl ⟨Nat.zero_le _, Nat.zero_le _⟩ hO dX11_orders_1 (fun μ1 hq1 => ?_)
  obtain ⟨hs1, hK⟩ := hq1
  refine zY.aload_n hO dX11_orders_4 rfl ?_
  refine zY.getR zfl_X11_46 (by decide : 127 < 150) rfl rfl hO dX11_orders_5 ?_
  refine zY.iconst hO dX11_orders_8 ?_
  refine zY.iald (0) rfl (by omega) (by decide) (by decide : 140 < 150) rfl hO dX11_orders_9 ?_
  exact zY.iret rfl ⟨_, rfl, ⟨hK 0 (by omega), hs1⟩⟩ hR hO dX11_orders_10

set_option maxRecDepth 100000 in
set_option maxHeartbeats 4000000 in
theorem ct_X11_fitsWith {μ : zMem} {D : zBk} {K0 K1 : Option zBk} (hM : zMd D K0 K1 μ) {a b : Int} (hab : (a = -6 ∧ b = -6) ∨ (0 ≤ a ∧ a ≤ 5 ∧ 0 ≤ b ∧ b ≤ 5)) : Ci kX11_fitsWith 7 150 zSX [zP 127, zI a, zI b] μ (fun r μ' => r = zWay D (D 7) a b ∧ zScr μ μ') := by
  refine Ct.of [some (zP 127), some (zI a), some (zI b), none, none, none, none, none] rfl (Nat.le_of_ble_eq_true rfl) (by decide +kernel) (fun Γ ad hO hR => ?_)
  have har : zr a := by omega
  have hbr : zr b := by omega
  refine zY.aload_n hO dX11_fitsWith_0 rfl ?_
  refine zY.callV0iD (ct_X11_there hM) (by decide) zcal_X11_there zml_X11_96 (by decide : 127 < 150) rfl rfl (Nat.le_of_ble_eq_true rfl) rfl ⟨Nat.zero_le _, Nat.zero_le _⟩ hO dX11_fitsWith_1 ?_
  refine zY.istore3 (zc1_I _) hO dX11_fitsWith_4 ?_
  refine zY.bipush hO dX11_fitsWith_5 (by decide) ?_
  refine zY.istore4 (zc1_I _) hO dX11_fitsWith_7 ?_
  have L9 : ∀ i : Nat, i ≤ 64 → ∀ (μ1 : zMem), zScr μ μ1 → (∀ j, 64 ≤ j + i → j < 64 → μ1 140 j = zwt D (D 7) a b i j) → zY Γ (150, zSX, ad, 0, 0) 9 [some (zP 127), some (zI a), some (zI b), some (zI (zthD D : Int)), some (zI (63 - (i : Int))), none, none, none] [] μ1 := by
    refine zdown (64) (fun i hi_i ih9 => ?_)
    intro μ1 hsc hJ
    have hMi := hsc.md hM
    have hth := zthD_64 D
    refine zY.iload hO dX11_fitsWith_9 rfl ?_
    refine zY.if_lt (tgt := 163) ⟨by omega, by omega⟩ hO dX11_fitsWith_11 (by decide) (fun c11 => ?_) (fun c11 => ?_)
    ·
      refine zY.aload_n hO dX11_fitsWith_163 rfl ?_
      refine zY.getR zfl_X11_46 (by decide : 127 < 150) rfl rfl hO dX11_fitsWith_164 ?_
      refine zY.iconst hO dX11_fitsWith_167 ?_
      refine zY.iald (0) rfl (by omega) (by decide) (by decide : 140 < 150) rfl hO dX11_fitsWith_168 ?_
      exact zY.iret rfl ⟨_, rfl, ⟨by rw [hJ 0 (by omega) (by omega), show i = 64 by omega]; rfl, hsc⟩⟩ hR hO dX11_fitsWith_169
    ·
      obtain ⟨sq, hsq⟩ : ∃ sq : Nat, sq = 63 - i := ⟨_, rfl⟩
      have hsq64 : sq < 64 := by omega
      rw [show (63 - (i : Int)) = (sq : Int) by omega]
      refine zY.aload_n hO dX11_fitsWith_14 rfl ?_
      refine zY.getR zfl_X11_46 (by decide : 127 < 150) rfl rfl hO dX11_fitsWith_15 ?_
      refine zY.iload hO dX11_fitsWith_18 rfl ?_
      refine zY.iload hO dX11_fitsWith_20 rfl ?_
      refine zY.iload_n hO dX11_fitsWith_22 rfl ?_
      have L32 : ∀ (μ2 : zMem), zScr μ μ2 → (∀ j, 64 ≤ j + i → j < 64 → μ2 140 j = zwt D (D 7) a b i j) → μ2 140 sq = (if sq = zthD D then 1 else 0) → zY Γ (150, zSX, ad, 0, 0) 32 [some (zP 127), some (zI a), some (zI b), some (zI (zthD D : Int)), some (zI (sq : Int)), none, none, none] [] μ2 := by
        intro μ2 hsc2 hJ2 hB2
        refine zY.iload hO dX11_fitsWith_32 rfl ?_
        refine zY.iload_n hO dX11_fitsWith_34 rfl ?_
        refine zY.iconst hO dX11_fitsWith_35 ?_
        refine zY.ixor (c := (-1 - (zthD D : Int))) (zb_not _ hth) hO dX11_fitsWith_36 ?_
        refine zY.iand (c := ((sq - (sq &&& zthD D) : Nat) : Int)) (zb_andn _ hsq64 _ hth) hO dX11_fitsWith_37 ?_
        refine zY.if_ne (tgt := 157) ⟨by omega, by omega⟩ hO dX11_fitsWith_38 (by decide) (fun c38 => ?_) (fun c38 => ?_)
        ·
          have hns : ¬ sq &&& zthD D = sq := fun z => by have := (zb_sub0 _ hsq64 _ hth).mpr z; omega
          refine zY.iinc4 (63 - ((i + 1 : Nat) : Int)) (by omega) (zc1_I _) hO dX11_fitsWith_157 ?_
          refine zY.goto (tgt := 9) hO dX11_fitsWith_160 (by decide) ?_
          refine ih9 (by omega) μ2 (by assumption) (fun j h1 h2 => ?_)
          simp only [zwt]
          by_cases e : j = 63 - i
          · rw [if_pos e, e, ← hsq]
            rw [zwv_0 hns, hB2, if_neg (fun z => hns (by rw [z]; exact Nat.and_self _))]
          · rw [if_neg e]
            exact hJ2 j (by omega) h2
        ·
          have hin0 : sq &&& zthD D = sq := (zb_sub0 _ hsq64 _ hth).mp (by omega)
          have hsub := zsub_of hsq64 hin0
          refine zY.iconst hO dX11_fitsWith_41 ?_
          refine zY.istore5 (zc1_I _) hO dX11_fitsWith_42 ?_
          have L44 : ∀ k : Nat, k ≤ 6 → ∀ (μ3 : zMem), zScr μ μ3 → (∀ j, 64 ≤ j + i → j < 64 → μ3 140 j = zwt D (D 7) a b i j) → μ3 140 sq = (if sq = zthD D then 1 else 0) + zsum (zgs D (D 7) a b (zwt D (D 7) a b i) sq) k → zY Γ (150, zSX, ad, 0, 0) 44 [some (zP 127), some (zI a), some (zI b), some (zI (zthD D : Int)), some (zI (sq : Int)), some (zI (k : Int)), none, none] [] μ3 := by
            refine zdown (6) (fun k hi_k ih44 => ?_)
            intro μ3 hsc3 hJ3 hB3
            have hM3 := hsc3.md hM
            refine zY.iload hO dX11_fitsWith_44 rfl ?_
            refine zY.bipush hO dX11_fitsWith_46 (by decide) ?_
            refine zY.icmp_ge (tgt := 157) ⟨by omega, by omega⟩ ⟨by omega, by omega⟩ hO dX11_fitsWith_48 (by decide) (fun c48 => ?_) (fun c48 => ?_)
            ·
              refine zY.iinc4 (63 - ((i + 1 : Nat) : Int)) (by omega) (zc1_I _) hO dX11_fitsWith_157 ?_
              refine zY.goto (tgt := 9) hO dX11_fitsWith_160 (by decide) ?_
              refine zY.none5 ?_
              refine ih9 (by omega) μ3 (by assumption) (fun j h1 h2 => ?_)
              simp only [zwt]
              by_cases e : j = 63 - i
              · rw [if_pos e, e, ← hsq]
                rw [zwv_1 hin0, hB3, show k = 6 by omega]
              · rw [if_neg e]
                exact hJ3 j (by omega) h2
            ·
              refine zY.iload_n hO dX11_fitsWith_51 rfl ?_
              refine zY.iload hO dX11_fitsWith_52 rfl ?_
              refine zY.ishr (c := ((zthD D / 2 ^ k : Nat) : Int)) (zb_shr _ hth k (by omega)) hO dX11_fitsWith_54 ?_
              refine zY.iconst hO dX11_fitsWith_55 ?_
              have hlt : zthD D / 2 ^ k < 64 := Nat.lt_of_le_of_lt (Nat.div_le_self _ _) hth
              have hbit := zb_bit _ hth k (by omega)
              refine zY.iand (c := ((zthD D / 2 ^ k % 2 : Nat) : Int)) (zb_and1 _ hlt) hO dX11_fitsWith_56 ?_
              refine zY.iconst hO dX11_fitsWith_57 ?_
              have L87 : ∀ (eq : Int) (μ5 : zMem), ((eq = 1 ∧ zmy D (D 7) sq k = true) ∨ (eq = 0 ∧ zmy D (D 7) sq k = false)) → zScr μ μ5 → μ5 140 = μ3 140 → zY Γ (150, zSX, ad, 0, 0) 87 [some (zP 127), some (zI a), some (zI b), some (zI (zthD D : Int)), some (zI (sq : Int)), some (zI (k : Int)), none, none] [zI eq] μ5 := by
                intro eq μ5 heq hsc5 h140
                refine zY.istore6 (zc1_I _) hO dX11_fitsWith_87 ?_
                have L113 : ∀ lt : Int, ((lt = 1 ∧ ((k : Int) = b ∧ sq.testBit a.toNat = false)) ∨ (lt = 0 ∧ ¬ ((k : Int) = b ∧ sq.testBit a.toNat = false))) → zY Γ (150, zSX, ad, 0, 0) 113 [some (zP 127), some (zI a), some (zI b), some (zI (zthD D : Int)), some (zI (sq : Int)), some (zI (k : Int)), some (zI eq), none] [zI lt] μ5 := by
                  intro lt hlt0
                  refine zY.istore7 (zc1_I _) hO dX11_fitsWith_113 ?_
                  refine zY.aload_n hO dX11_fitsWith_115 rfl ?_
                  refine zY.getR zfl_X11_46 (by decide : 127 < 150) rfl rfl hO dX11_fitsWith_116 ?_
                  refine zY.iload hO dX11_fitsWith_119 rfl ?_
                  refine zY.dup2 rfl rfl hO dX11_fitsWith_121 ?_
                  refine zY.iald (sq) rfl (by omega) (by decide) (by decide : 140 < 150) rfl hO dX11_fitsWith_122 ?_
                  refine zY.as (b := (if sq = zthD D then 1 else 0) + zsum (zgs D (D 7) a b (zwt D (D 7) a b i) sq) k) (by rw [h140]; exact hB3) ?_
                  refine zY.iload hO dX11_fitsWith_123 rfl ?_
                  refine zY.if_eq (tgt := 148) ⟨by omega, by omega⟩ hO dX11_fitsWith_125 (by decide) (fun c125 => ?_) (fun c125 => ?_)
                  ·
                    refine zY.iconst hO dX11_fitsWith_148 ?_
                    refine zY.iadd hO dX11_fitsWith_149 ?_
                    refine zY.iast (sq) rfl (by omega) (by decide) (by decide : 140 < 150) rfl hO dX11_fitsWith_150 ?_
                    refine zY.iinc5 _ rfl (zc1_I _) hO dX11_fitsWith_151 ?_
                    refine zY.goto (tgt := 44) hO dX11_fitsWith_154 (by decide) ?_
                    refine zY.none6 ?_
                    refine zY.none7 ?_
                    refine ih44 (by omega) (zwr μ5 140 sq ((if sq = zthD D then 1 else 0) + zsum (zgs D (D 7) a b (zwt D (D 7) a b i) sq) k + 0)) (hsc5.wr (by decide) (by decide)) (fun j h1 h2 => by simp only [zwr]; rw [if_pos trivial, if_neg (by omega), h140]; exact hJ3 j h1 h2) ?_
                    show (if 140 = 140 then (if sq = sq then (if sq = zthD D then 1 else 0) + zsum (zgs D (D 7) a b (zwt D (D 7) a b i) sq) k + 0 else _) else _) = _
                    rw [if_pos rfl, if_pos rfl]
                    simp only [zsum]
                    rw [show zgs D (D 7) a b (zwt D (D 7) a b i) sq k = 0 by unfold zgs; rw [if_neg (fun z => by rcases heq with h | h; (· omega); (· rw [h.2] at z; cases z.1))]]
                    omega
                  ·
                    refine zY.iload hO dX11_fitsWith_128 rfl ?_
                    refine zY.if_ne (tgt := 148) ⟨by omega, by omega⟩ hO dX11_fitsWith_130 (by decide) (fun c130 => ?_) (fun c130 => ?_)
                    ·
                      refine zY.iconst hO dX11_fitsWith_148 ?_
                      refine zY.iadd hO dX11_fitsWith_149 ?_
                      refine zY.iast (sq) rfl (by omega) (by decide) (by decide : 140 < 150) rfl hO dX11_fitsWith_150 ?_
                      refine zY.iinc5 _ rfl (zc1_I _) hO dX11_fitsWith_151 ?_
                      refine zY.goto (tgt := 44) hO dX11_fitsWith_154 (by decide) ?_
                      refine zY.none6 ?_
                      refine zY.none7 ?_
                      refine ih44 (by omega) (zwr μ5 140 sq ((if sq = zthD D then 1 else 0) + zsum (zgs D (D 7) a b (zwt D (D 7) a b i) sq) k + 0)) (hsc5.wr (by decide) (by decide)) (fun j h1 h2 => by simp only [zwr]; rw [if_pos trivial, if_neg (by omega), h140]; exact hJ3 j h1 h2) ?_
                      show (if 140 = 140 then (if sq = sq then (if sq = zthD D then 1 else 0) + zsum (zgs D (D 7) a b (zwt D (D 7) a b i) sq) k + 0 else _) else _) = _
                      rw [if_pos rfl, if_pos rfl]
                      simp only [zsum]
                      rw [show zgs D (D 7) a b (zwt D (D 7) a b i) sq k = 0 by unfold zgs; rw [if_neg (fun z => by rcases hlt0 with h | h; (· exact z.2 h.2); (· omega))]]
                      omega
                    ·
                      refine zY.aload_n hO dX11_fitsWith_133 rfl ?_
                      refine zY.getR zfl_X11_46 (by decide : 127 < 150) rfl rfl hO dX11_fitsWith_134 ?_
                      refine zY.iload hO dX11_fitsWith_137 rfl ?_
                      refine zY.iconst hO dX11_fitsWith_139 ?_
                      refine zY.iload hO dX11_fitsWith_140 rfl ?_
                      refine zY.ishl (c := ((2 ^ k : Nat) : Int)) (zb_shl k (by omega)) hO dX11_fitsWith_142 ?_
                      refine zY.ior (c := ((sq ||| 2 ^ k : Nat) : Int)) (zb_or _ hsq64 _ (zb_two k (by omega))) hO dX11_fitsWith_143 ?_
                      refine zY.iald (sq ||| 2 ^ k) rfl (zb_lt64 sq hsq64 k (by omega)) (by decide) (by decide : 140 < 150) rfl hO dX11_fitsWith_144 ?_
                      have hb5 := (zmy_not (D := D) (want := D 7) (set := sq) (s := k) (by rcases heq with h | h; (· exact h.2); (· omega))).1
                      have hgt5 := zb_gt sq hsq64 k (by omega) hb5
                      refine zY.as (b := zwt D (D 7) a b i (sq ||| 2 ^ k)) (by rw [h140]; exact hJ3 _ (by omega) (zb_lt64 sq hsq64 k (by omega))) ?_
                      refine zY.goto (tgt := 149) hO dX11_fitsWith_145 (by decide) ?_
                      refine zY.iadd hO dX11_fitsWith_149 ?_
                      refine zY.iast (sq) rfl (by omega) (by decide) (by decide : 140 < 150) rfl hO dX11_fitsWith_150 ?_
                      refine zY.iinc5 _ rfl (zc1_I _) hO dX11_fitsWith_151 ?_
                      refine zY.goto (tgt := 44) hO dX11_fitsWith_154 (by decide) ?_
                      refine zY.none6 ?_
                      refine zY.none7 ?_
                      refine ih44 (by omega) (zwr μ5 140 sq ((if sq = zthD D then 1 else 0) + zsum (zgs D (D 7) a b (zwt D (D 7) a b i) sq) k + zwt D (D 7) a b i (sq ||| 2 ^ k))) (hsc5.wr (by decide) (by decide)) (fun j h1 h2 => by simp only [zwr]; rw [if_pos trivial, if_neg (by omega), h140]; exact hJ3 j h1 h2) ?_
                      show (if 140 = 140 then (if sq = sq then (if sq = zthD D then 1 else 0) + zsum (zgs D (D 7) a b (zwt D (D 7) a b i) sq) k + zwt D (D 7) a b i (sq ||| 2 ^ k) else _) else _) = _
                      rw [if_pos rfl, if_pos rfl]
                      simp only [zsum]
                      rw [show zgs D (D 7) a b (zwt D (D 7) a b i) sq k = zwt D (D 7) a b i (sq ||| 2 ^ k) by unfold zgs; rw [if_pos ⟨by rcases heq with h | h; (· exact h.2); (· omega), by rcases hlt0 with h | h; (· omega); (· exact h.2)⟩]]
                      omega
                refine zY.iload hO dX11_fitsWith_89 rfl ?_
                refine zY.iload_n hO dX11_fitsWith_91 rfl ?_
                refine zY.icmp_ne (tgt := 112) ⟨by omega, by omega⟩ hbr hO dX11_fitsWith_92 (by decide) (fun c92 => ?_) (fun c92 => ?_)
                ·
                  refine zY.iconst hO dX11_fitsWith_112 ?_
                  exact L113 _ (Or.inr ⟨rfl, fun z => by omega⟩)
                ·
                  refine zY.iload_n hO dX11_fitsWith_95 rfl ?_
                  refine zY.if_lt (tgt := 112) har hO dX11_fitsWith_96 (by decide) (fun c96 => ?_) (fun c96 => ?_)
                  ·
                    refine zY.iconst hO dX11_fitsWith_112 ?_
                    exact L113 _ (Or.inr ⟨rfl, fun z => by omega⟩)
                  ·
                    obtain ⟨aq, haq⟩ : ∃ aq : Nat, a = (aq : Int) := ⟨a.toNat, by omega⟩
                    refine zY.iload hO dX11_fitsWith_99 rfl ?_
                    refine zY.iload_n hO dX11_fitsWith_101 rfl ?_
                    refine zY.as haq ?_
                    refine zY.ishr (c := ((sq / 2 ^ aq : Nat) : Int)) (zb_shr _ hsq64 aq (by omega)) hO dX11_fitsWith_102 ?_
                    refine zY.iconst hO dX11_fitsWith_103 ?_
                    have hlt3 : sq / 2 ^ aq < 64 := Nat.lt_of_le_of_lt (Nat.div_le_self _ _) hsq64
                    have hbit3 := zb_bit _ hsq64 aq (by omega)
                    refine zY.iand (c := ((sq / 2 ^ aq % 2 : Nat) : Int)) (zb_and1 _ hlt3) hO dX11_fitsWith_104 ?_
                    refine zY.if_ne (tgt := 112) ⟨by omega, by omega⟩ hO dX11_fitsWith_105 (by decide) (fun c105 => ?_) (fun c105 => ?_)
                    ·
                      refine zY.iconst hO dX11_fitsWith_112 ?_
                      exact L113 _ (Or.inr ⟨rfl, fun z => by have hz := z.2; rw [haq, Int.toNat_natCast, hbit3.mp (by omega)] at hz; cases hz⟩)
                    ·
                      refine zY.iconst hO dX11_fitsWith_108 ?_
                      refine zY.goto (tgt := 113) hO dX11_fitsWith_109 (by decide) ?_
                      exact L113 _ (Or.inl ⟨rfl, by omega, by rw [haq, Int.toNat_natCast]; exact eq_false_of_ne_true (fun z => by have := hbit3.mpr z; omega)⟩)
              refine zY.icmp_ne (tgt := 86) ⟨by omega, by omega⟩ ⟨by omega, by omega⟩ hO dX11_fitsWith_58 (by decide) (fun c58 => ?_) (fun c58 => ?_)
              ·
                have hmn : zmy D (D 7) sq k = false := by unfold zmy; rw [show (zthD D).testBit k = false from eq_false_of_ne_true (fun z => by have := hbit.mpr z; omega)]; rfl
                refine zY.iconst hO dX11_fitsWith_86 ?_
                exact L87 _ _ (Or.inr ⟨rfl, hmn⟩) hsc3 rfl
              ·
                have hb1 := hbit.mp (by omega)
                refine zY.iload hO dX11_fitsWith_61 rfl ?_
                refine zY.iload hO dX11_fitsWith_63 rfl ?_
                refine zY.ishr (c := ((sq / 2 ^ k : Nat) : Int)) (zb_shr _ hsq64 k (by omega)) hO dX11_fitsWith_65 ?_
                refine zY.iconst hO dX11_fitsWith_66 ?_
                have hlt2 : sq / 2 ^ k < 64 := Nat.lt_of_le_of_lt (Nat.div_le_self _ _) hsq64
                have hbit2 := zb_bit _ hsq64 k (by omega)
                refine zY.iand (c := ((sq / 2 ^ k % 2 : Nat) : Int)) (zb_and1 _ hlt2) hO dX11_fitsWith_67 ?_
                refine zY.if_ne (tgt := 86) ⟨by omega, by omega⟩ hO dX11_fitsWith_68 (by decide) (fun c68 => ?_) (fun c68 => ?_)
                ·
                  have hmn : zmy D (D 7) sq k = false := by unfold zmy; rw [show sq.testBit k = true from hbit2.mp (by omega)]; simp
                  refine zY.iconst hO dX11_fitsWith_86 ?_
                  exact L87 _ _ (Or.inr ⟨rfl, hmn⟩) hsc3 rfl
                ·
                  have hb2 : sq.testBit k = false := eq_false_of_ne_true (fun z => by have := hbit2.mpr z; omega)
                  refine zY.aload_n hO dX11_fitsWith_71 rfl ?_
                  refine zY.iload hO dX11_fitsWith_72 rfl ?_
                  refine zY.iload hO dX11_fitsWith_74 rfl ?_
                  refine zY.callV2i (ct_X11_isSeen hM3 hsq64 hsub (s := k) (by omega)) (by decide) zcal_X11_isSeen zml_X11_248 (by decide : 127 < 150) rfl rfl (Nat.le_of_ble_eq_true rfl) rfl ⟨Nat.zero_le _, Nat.zero_le _⟩ hO dX11_fitsWith_76 (fun aq μ4 hq4 => ?_)
                  obtain ⟨rfl, n4q, h4q, hq5⟩ := hq4
                  have hsc4 : zScr μ μ4 := by rw [hq5]; exact (hsc3.row (by decide) (by decide)).row (by decide) (by decide)
                  have h140 : μ4 140 = μ3 140 := by rw [hq5, zrow_ne (by decide), zrow_ne (by decide)]
                  refine zY.if_eq (tgt := 86) zr_b hO dX11_fitsWith_79 (by decide) (fun c79 => ?_) (fun c79 => ?_)
                  ·
                    replace c79 := zb0.mp c79
                    have hmn : zmy D (D 7) sq k = false := by unfold zmy; rw [hb1, hb2]; simp; exact ⟨fun z => c79 (Or.inl z), fun z => c79 (Or.inr z)⟩
                    refine zY.iconst hO dX11_fitsWith_86 ?_
                    exact L87 _ _ (Or.inr ⟨rfl, hmn⟩) hsc4 h140
                  ·
                    replace c79 := zb1.mp c79
                    have hmy : zmy D (D 7) sq k = true := by unfold zmy; rw [hb1, hb2]; simp; exact c79
                    refine zY.iconst hO dX11_fitsWith_82 ?_
                    refine zY.goto (tgt := 87) hO dX11_fitsWith_83 (by decide) ?_
                    exact L87 _ _ (Or.inl ⟨rfl, hmy⟩) hsc4 h140
          exact L44 0 (by omega) μ2 hsc2 hJ2 (by rw [hB2]; simp [zsum])
      refine zY.icmp_ne (tgt := 30) ⟨by omega, by omega⟩ ⟨by omega, by omega⟩ hO dX11_fitsWith_23 (by decide) (fun c23 => ?_) (fun c23 => ?_)
      ·
        refine zY.iconst hO dX11_fitsWith_30 ?_
        refine zY.iast (sq) rfl (by omega) (by decide) (by decide : 140 < 150) rfl hO dX11_fitsWith_31 ?_
        exact L32 _ (hsc.wr (by decide) (by decide)) (fun j h1 h2 => by simp only [zwr]; rw [if_pos trivial, if_neg (by omega)]; exact hJ j h1 h2) (by simp only [zwr]; rw [if_pos trivial, if_pos trivial, if_neg (by omega)])
      ·
        refine zY.iconst hO dX11_fitsWith_26 ?_
        refine zY.goto (tgt := 31) hO dX11_fitsWith_27 (by decide) ?_
        refine zY.iast (sq) rfl (by omega) (by decide) (by decide : 140 < 150) rfl hO dX11_fitsWith_31 ?_
        exact L32 _ (hsc.wr (by decide) (by decide)) (fun j h1 h2 => by simp only [zwr]; rw [if_pos trivial, if_neg (by omega)]; exact hJ j h1 h2) (by simp only [zwr]; rw [if_pos trivial, if_pos trivial, if_pos (by omega)])
  exact L9 0 (by omega) μ zScr.rfl' (fun j h1 h2 => by omega)

set_option maxRecDepth 100000 in
set_option maxHeartbeats 4000000 in
theorem ct_X11_fits {μ : zMem} {D : zBk} {K0 K1 : Option zBk} (hM : zMd D K0 K1 μ)  : Ci kX11_fits 8 150 zSX [zP 127] μ (fun a μ' => a = zA_fits D ∧ zScr μ μ') := by
  refine Ct.of [some (zP 127)] rfl (Nat.le_of_ble_eq_true rfl) (by decide +kernel) (fun Γ ad hO hR => ?_)
  refine zY.aload_n hO dX11_fits_0 rfl ?_
  refine zY.bipush hO dX11_fits_1 (by decide) ?_
  refine zY.bipush hO dX11_fits_3 (by decide) ?_
  refine zY.callV2i (ct_X11_fitsWith (a := -6) (b := -6) hM (Or.inl ⟨rfl, rfl⟩)) (by decide) zcal_X11_fitsWith zml_X11_251 (by decide : 127 < 150) rfl rfl (Nat.le_of_ble_eq_true rfl) rfl ⟨Nat.zero_le _, Nat.zero_le _⟩ hO dX11_fits_5 (fun aq μ1 hq1 => ?_)
  obtain ⟨rfl, hs1⟩ := hq1
  exact zY.iret rfl ⟨_, rfl, ⟨rfl, hs1⟩⟩ hR hO dX11_fits_8

set_option maxRecDepth 100000 in
set_option maxHeartbeats 4000000 in
theorem ct_X11_isThere {μ : zMem} {D : zBk} {K0 K1 : Option zBk} (hM : zMd D K0 K1 μ) {x : Int} (hx : zr x) : Ci kX11_isThere 3 150 zSX [zP 127, zI x] μ (fun a μ' => a = (if 0 ≤ x ∧ x ≤ 5 ∧ 0 < D 4 x.toNat then 1 else 0) ∧ μ' = μ) := by
  refine Ct.of [some (zP 127), some (zI x)] rfl (Nat.le_of_ble_eq_true rfl) (by decide +kernel) (fun Γ ad hO hR => ?_)
  refine zY.iload_n hO dX11_isThere_0 rfl ?_
  refine zY.callS1iD (ct_X11_isSheet hx) (by decide) zcal_X11_isSheet zml_X11_120 (Nat.le_of_ble_eq_true rfl) rfl ⟨Nat.zero_le _, Nat.zero_le _⟩ hO dX11_isThere_1 ?_
  refine zY.if_eq (tgt := 20) zr_b hO dX11_isThere_4 (by decide) (fun c4 => ?_) (fun c4 => ?_)
  ·
    replace c4 := zb0.mp c4
    refine zY.iconst hO dX11_isThere_20 ?_
    exact zY.zret (by omega) rfl ⟨_, rfl, ⟨by rw [if_neg (fun z => c4 ⟨z.1, z.2.1⟩)], rfl⟩⟩ hR hO dX11_isThere_21
  ·
    replace c4 := zb1.mp c4
    obtain ⟨xq, hxq⟩ : ∃ xq : Nat, x = (xq : Int) := ⟨x.toNat, by omega⟩
    have hsz := hM.1.2.1 xq (by omega)
    refine zY.aload_n hO dX11_isThere_7 rfl ?_
    refine zY.getR zfl_X11_22 (by decide : 127 < 150) rfl rfl hO dX11_isThere_8 ?_
    refine zY.iload_n hO dX11_isThere_11 rfl ?_
    refine zY.iald (xq) hxq (by omega) (by decide) (by decide : 132 < 150) rfl hO dX11_isThere_12 ?_
    refine zY.as (b := D 4 xq) (hM.2.1.1 4 (by omega) (by omega) xq (by omega)) ?_
    refine zY.if_le (tgt := 20) ⟨by omega, by omega⟩ hO dX11_isThere_13 (by decide) (fun c13 => ?_) (fun c13 => ?_)
    ·
      refine zY.iconst hO dX11_isThere_20 ?_
      exact zY.zret (by omega) rfl ⟨_, rfl, ⟨by rw [if_neg (fun z => by have hz := z.2.2; rw [hxq, Int.toNat_natCast] at hz; omega)], rfl⟩⟩ hR hO dX11_isThere_21
    ·
      refine zY.iconst hO dX11_isThere_16 ?_
      refine zY.goto (tgt := 21) hO dX11_isThere_17 (by decide) ?_
      exact zY.zret (by omega) rfl ⟨_, rfl, ⟨by rw [if_pos ⟨c4.1, c4.2, by rw [hxq, Int.toNat_natCast]; omega⟩], rfl⟩⟩ hR hO dX11_isThere_21

set_option maxRecDepth 100000 in
set_option maxHeartbeats 4000000 in
theorem ct_X11_ahead {μ : zMem} {D : zBk} {K0 K1 : Option zBk} (hM : zMd D K0 K1 μ) {x y : Int} (hx : zr x) (hy : zr y) : Ci kX11_ahead 9 150 zSX [zP 127, zI x, zI y] μ (fun a μ' => a = zA_ahead D x y ∧ zScr μ μ') := by
  refine Ct.of [some (zP 127), some (zI x), some (zI y), none, none] rfl (Nat.le_of_ble_eq_true rfl) (by decide +kernel) (fun Γ ad hO hR => ?_)
  refine zY.aload_n hO dX11_ahead_0 rfl ?_
  refine zY.iload_n hO dX11_ahead_1 rfl ?_
  refine zY.callV1iD (ct_X11_isThere hM hx) (by decide) zcal_X11_isThere zml_X11_254 (by decide : 127 < 150) rfl rfl (Nat.le_of_ble_eq_true rfl) rfl ⟨Nat.zero_le _, Nat.zero_le _⟩ hO dX11_ahead_2 ?_
  refine zY.if_eq (tgt := 21) zr_b hO dX11_ahead_5 (by decide) (fun c5 => ?_) (fun c5 => ?_)
  ·
    replace c5 := zb0.mp c5
    refine zY.iconst hO dX11_ahead_21 ?_
    exact zY.iret rfl ⟨_, rfl, ⟨by unfold zA_ahead; rw [if_neg (fun z => c5 z.1)], zScr.rfl'⟩⟩ hR hO dX11_ahead_22
  ·
    replace c5 := zb1.mp c5
    refine zY.aload_n hO dX11_ahead_8 rfl ?_
    refine zY.iload_n hO dX11_ahead_9 rfl ?_
    refine zY.callV1iD (ct_X11_isThere hM hy) (by decide) zcal_X11_isThere zml_X11_254 (by decide : 127 < 150) rfl rfl (Nat.le_of_ble_eq_true rfl) rfl ⟨Nat.zero_le _, Nat.zero_le _⟩ hO dX11_ahead_10 ?_
    refine zY.if_eq (tgt := 21) zr_b hO dX11_ahead_13 (by decide) (fun c13 => ?_) (fun c13 => ?_)
    ·
      replace c13 := zb0.mp c13
      refine zY.iconst hO dX11_ahead_21 ?_
      exact zY.iret rfl ⟨_, rfl, ⟨by unfold zA_ahead; rw [if_neg (fun z => c13 z.2.1)], zScr.rfl'⟩⟩ hR hO dX11_ahead_22
    ·
      replace c13 := zb1.mp c13
      refine zY.iload_n hO dX11_ahead_16 rfl ?_
      refine zY.iload_n hO dX11_ahead_17 rfl ?_
      refine zY.icmp_ne (tgt := 23) hx hy hO dX11_ahead_18 (by decide) (fun c18 => ?_) (fun c18 => ?_)
      ·
        refine zY.aload_n hO dX11_ahead_23 rfl ?_
        refine zY.callV0i (ct_X11_fits hM) (by decide) zcal_X11_fits zml_X11_257 (by decide : 127 < 150) rfl rfl (Nat.le_of_ble_eq_true rfl) rfl ⟨Nat.zero_le _, Nat.zero_le _⟩ hO dX11_ahead_24 (fun aq μ1 hq1 => ?_)
        obtain ⟨rfl, hs1⟩ := hq1
        have hM1 := hs1.md hM
        have hfz : zr (zA_fits D) := zwt_zr (D := D) (want := D 7) (a := -6) (b := -6) 64 0
        refine zY.istore3 (zc1_I _) hO dX11_ahead_27 ?_
        refine zY.iload_n hO dX11_ahead_28 rfl ?_
        refine zY.if_ne (tgt := 35) hfz hO dX11_ahead_29 (by decide) (fun c29 => ?_) (fun c29 => ?_)
        ·
          refine zY.aload_n hO dX11_ahead_35 rfl ?_
          refine zY.iload_n hO dX11_ahead_36 rfl ?_
          refine zY.iload_n hO dX11_ahead_37 rfl ?_
          refine zY.callV2i (ct_X11_fitsWith hM1 (a := x) (b := y) (Or.inr ⟨c5.1, c5.2.1, c13.1, c13.2.1⟩)) (by decide) zcal_X11_fitsWith zml_X11_251 (by decide : 127 < 150) rfl rfl (Nat.le_of_ble_eq_true rfl) rfl ⟨Nat.zero_le _, Nat.zero_le _⟩ hO dX11_ahead_38 (fun bq μ3 hq4 => ?_)
          obtain ⟨rfl, hs3⟩ := hq4
          have hfz2 : zr (zWay D (D 7) x y) := zwt_zr (D := D) (want := D 7) (a := x) (b := y) 64 0
          have hs4 := hs1.trans hs3
          refine zY.istore4 (zc1_I _) hO dX11_ahead_41 ?_
          refine zY.iload hO dX11_ahead_43 rfl ?_
          refine zY.iload_n hO dX11_ahead_45 rfl ?_
          refine zY.icmp_ne (tgt := 53) hfz2 hfz hO dX11_ahead_46 (by decide) (fun c46 => ?_) (fun c46 => ?_)
          ·
            refine zY.iload hO dX11_ahead_53 rfl ?_
            refine zY.if_ne (tgt := 62) hfz2 hO dX11_ahead_55 (by decide) (fun c55 => ?_) (fun c55 => ?_)
            ·
              refine zY.iconst hO dX11_ahead_62 ?_
              exact zY.iret rfl ⟨_, rfl, ⟨by unfold zA_ahead; rw [if_pos ⟨c5, c13, c18⟩, if_neg c29, if_neg c46, if_neg c55], hs4⟩⟩ hR hO dX11_ahead_63
            ·
              refine zY.iconst hO dX11_ahead_58 ?_
              refine zY.goto (tgt := 63) hO dX11_ahead_59 (by decide) ?_
              exact zY.iret rfl ⟨_, rfl, ⟨by unfold zA_ahead; rw [if_pos ⟨c5, c13, c18⟩, if_neg c29, if_neg c46, if_pos c55], hs4⟩⟩ hR hO dX11_ahead_63
          ·
            refine zY.iconst hO dX11_ahead_49 ?_
            refine zY.goto (tgt := 63) hO dX11_ahead_50 (by decide) ?_
            exact zY.iret rfl ⟨_, rfl, ⟨by unfold zA_ahead; rw [if_pos ⟨c5, c13, c18⟩, if_neg c29, if_pos c46], hs4⟩⟩ hR hO dX11_ahead_63
        ·
          refine zY.bipush hO dX11_ahead_32 (by decide) ?_
          exact zY.iret rfl ⟨_, rfl, ⟨by unfold zA_ahead; rw [if_pos ⟨c5, c13, c18⟩, if_pos c29], hs1⟩⟩ hR hO dX11_ahead_34
      ·
        refine zY.iconst hO dX11_ahead_21 ?_
        exact zY.iret rfl ⟨_, rfl, ⟨by unfold zA_ahead; rw [if_neg (fun z => z.2.2 c18)], zScr.rfl'⟩⟩ hR hO dX11_ahead_22
