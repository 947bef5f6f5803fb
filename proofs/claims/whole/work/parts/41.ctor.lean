/-! constructors -/
theorem zY.callI0 {Γ : zCx} {k kc : zMth} {d dc pc n c1 s1 cs sl mc ms n0 idx n' q mcc msc : Nat} {sh sh' sh1 : Nat → zShc} {ad ad0 : Nat → Nat} {lv : List (Option Value)} {rest : List Value} {μ : zMem} {post : zMem → Prop} (hc : Cn kc dc n sh [zP q] μ n' sh1 mcc msc post) (hdd : dc + 1 ≤ d) (hk : zCal kc 0 ∧ Cond.instanceMethod kc.1 ∈ zT) (hin : kc.1.name = "<init>") (hret : kc.2.2.2 = none) (hlk : Cond.methodLink k.1.cls idx kc.1 ∈ zT) (hrs : (rest.map fun v => v.category).sum ≤ 8) (hll : lv.length = k.2.2.1) (hG : zgrw Γ mc ms) (had : zag n0 ad0 ad) (hn0 : n0 ≤ n) (hs' : ∀ q, q < n' → sh1 q = sh' q) (hlv : zlwL n lv) (hst : zlwS n rest) (e2 : c1 = cs + mcc) (e3 : s1 = sl + msc) (hcm : c1 ≤ mc ∧ s1 ≤ ms)
    (hO : zok Γ k d) (hd : decode k.2.1 pc = .ok (.invokespecial idx, 3)) (kk : ∀ (ad' : Nat → Nat) (μ' : zMem), zag n0 ad0 ad' → post μ' → zY Γ (n', sh', ad', c1, s1) (pc + 3) lv rest μ') : zY Γ (n, sh, ad, cs, sl) pc lv (zP q :: rest) μ :=
  zY.callI (av := []) hc hdd hk rfl hin hret hlk hrs hll hG had hn0 hs' hlv hst e2 e3 hcm hO hd kk
theorem zY.callIN0 {Γ : zCx} {k kc : zMth} {d dc pc n c1 s1 cs sl mc ms n0 idx n' q mcc msc : Nat} {host : String} {sh sh' sh1 : Nat → zShc} {ad ad0 : Nat → Nat} {lv : List (Option Value)} {rest : List Value} {μ : zMem} {post : zMem → Prop} (hc : Cn kc dc n sh [zP q] μ n' sh1 mcc msc post) (hdd : dc + 1 ≤ d) (hk : zCal kc 0 ∧ Cond.instanceMethod kc.1 ∈ zT) (hin : kc.1.name = "<init>") (hret : kc.2.2.2 = none) (hlk : (k.1.cls, idx, kc.1, host) ∈ zNest) (hrs : (rest.map fun v => v.category).sum ≤ 8) (hll : lv.length = k.2.2.1) (hG : zgrw Γ mc ms) (had : zag n0 ad0 ad) (hn0 : n0 ≤ n) (hs' : ∀ q, q < n' → sh1 q = sh' q) (hlv : zlwL n lv) (hst : zlwS n rest) (e2 : c1 = cs + mcc) (e3 : s1 = sl + msc) (hcm : c1 ≤ mc ∧ s1 ≤ ms)
    (hO : zok Γ k d) (hd : decode k.2.1 pc = .ok (.invokespecial idx, 3)) (kk : ∀ (ad' : Nat → Nat) (μ' : zMem), zag n0 ad0 ad' → post μ' → zY Γ (n', sh', ad', c1, s1) (pc + 3) lv rest μ') : zY Γ (n, sh, ad, cs, sl) pc lv (zP q :: rest) μ :=
  zY.callIN (av := []) hc hdd hk rfl hin hret hlk hrs hll hG had hn0 hs' hlv hst e2 e3 hcm hO hd kk
theorem zY.callI1 {Γ : zCx} {k kc : zMth} {d dc pc n c1 s1 cs sl mc ms n0 idx n' q mcc msc : Nat} {v1 : Value} {sh sh' sh1 : Nat → zShc} {ad ad0 : Nat → Nat} {lv : List (Option Value)} {rest : List Value} {μ : zMem} {post : zMem → Prop} (hc : Cn kc dc n sh [zP q, v1] μ n' sh1 mcc msc post) (hdd : dc + 1 ≤ d) (hk : zCal kc 1 ∧ Cond.instanceMethod kc.1 ∈ zT) (hin : kc.1.name = "<init>") (hret : kc.2.2.2 = none) (hlk : Cond.methodLink k.1.cls idx kc.1 ∈ zT) (hrs : (rest.map fun v => v.category).sum ≤ 8) (hll : lv.length = k.2.2.1) (hG : zgrw Γ mc ms) (had : zag n0 ad0 ad) (hn0 : n0 ≤ n) (hs' : ∀ q, q < n' → sh1 q = sh' q) (hlv : zlwL n lv) (hst : zlwS n rest) (e2 : c1 = cs + mcc) (e3 : s1 = sl + msc) (hcm : c1 ≤ mc ∧ s1 ≤ ms)
    (hO : zok Γ k d) (hd : decode k.2.1 pc = .ok (.invokespecial idx, 3)) (kk : ∀ (ad' : Nat → Nat) (μ' : zMem), zag n0 ad0 ad' → post μ' → zY Γ (n', sh', ad', c1, s1) (pc + 3) lv rest μ') : zY Γ (n, sh, ad, cs, sl) pc lv (v1 :: zP q :: rest) μ :=
  zY.callI (av := [v1]) hc hdd hk rfl hin hret hlk hrs hll hG had hn0 hs' hlv hst e2 e3 hcm hO hd kk

set_option maxRecDepth 100000 in
theorem zdf_X0 : ∀ j, j < 2 → defaultValue (tyX0 j) = vp_V (zfs (fun _ => 0) [(3, 0), (3, 0)] (fun _ => 0)) j := fun j hj => match j, hj with
  | 0, _ => rfl
  | 1, _ => rfl
  | j + 2, hj => absurd hj (by omega)
set_option maxRecDepth 100000 in
theorem zdf_X1 : ∀ j, j < 6 → defaultValue (tyX1 j) = vp_V (zfs (fun _ => 0) [(3, 0), (3, 0), (3, 0), (3, 0), (1, 0), (2, 0)] (fun _ => 0)) j := fun j hj => match j, hj with
  | 0, _ => rfl
  | 1, _ => rfl
  | 2, _ => rfl
  | 3, _ => rfl
  | 4, _ => rfl
  | 5, _ => rfl
  | j + 6, hj => absurd hj (by omega)
set_option maxRecDepth 100000 in
theorem zdf_X2 : ∀ j, j < 2 → defaultValue (tyX2 j) = vp_V (zfs (fun _ => 0) [(3, 0), (1, 0)] (fun _ => 0)) j := fun j hj => match j, hj with
  | 0, _ => rfl
  | 1, _ => rfl
  | j + 2, hj => absurd hj (by omega)
set_option maxRecDepth 100000 in
theorem zdf_X3 : ∀ j, j < 2 → defaultValue (tyX3 j) = vp_V (zfs (fun _ => 0) [(3, 0), (1, 0)] (fun _ => 0)) j := fun j hj => match j, hj with
  | 0, _ => rfl
  | 1, _ => rfl
  | j + 2, hj => absurd hj (by omega)
set_option maxRecDepth 100000 in
theorem zdf_X4 : ∀ j, j < 7 → defaultValue (tyX4 j) = vp_V (zfs (fun _ => 0) [(3, 0), (3, 0), (3, 0), (3, 0), (3, 0), (1, 0), (1, 0)] (fun _ => 0)) j := fun j hj => match j, hj with
  | 0, _ => rfl
  | 1, _ => rfl
  | 2, _ => rfl
  | 3, _ => rfl
  | 4, _ => rfl
  | 5, _ => rfl
  | 6, _ => rfl
  | j + 7, hj => absurd hj (by omega)
set_option maxRecDepth 100000 in
theorem zdf_X5 : ∀ j, j < 1 → defaultValue (tyX5 j) = vp_V (zfs (fun _ => 0) [(3, 0)] (fun _ => 0)) j := fun j hj => match j, hj with
  | 0, _ => rfl
  | j + 1, hj => absurd hj (by omega)
set_option maxRecDepth 100000 in
theorem zdf_X6 : ∀ j, j < 8 → defaultValue (tyX6 j) = vp_V (zfs (fun _ => 0) [(3, 0), (3, 0), (3, 0), (3, 0), (3, 0), (3, 0), (3, 0), (3, 0)] (fun _ => 0)) j := fun j hj => match j, hj with
  | 0, _ => rfl
  | 1, _ => rfl
  | 2, _ => rfl
  | 3, _ => rfl
  | 4, _ => rfl
  | 5, _ => rfl
  | 6, _ => rfl
  | 7, _ => rfl
  | j + 8, hj => absurd hj (by omega)
set_option maxRecDepth 100000 in
theorem zdf_X7 : ∀ j, j < 2 → defaultValue (tyX7 j) = vp_V (zfs (fun _ => 0) [(3, 0), (3, 0)] (fun _ => 0)) j := fun j hj => match j, hj with
  | 0, _ => rfl
  | 1, _ => rfl
  | j + 2, hj => absurd hj (by omega)
set_option maxRecDepth 100000 in
theorem zdf_X8 : ∀ j, j < 7 → defaultValue (tyX8 j) = vp_V (zfs (fun _ => 0) [(3, 0), (3, 0), (3, 0), (3, 0), (3, 0), (3, 0), (1, 0)] (fun _ => 0)) j := fun j hj => match j, hj with
  | 0, _ => rfl
  | 1, _ => rfl
  | 2, _ => rfl
  | 3, _ => rfl
  | 4, _ => rfl
  | 5, _ => rfl
  | 6, _ => rfl
  | j + 7, hj => absurd hj (by omega)
set_option maxRecDepth 100000 in
theorem zdf_X9 : ∀ j, j < 5 → defaultValue (tyX9 j) = vp_V (zfs (fun _ => 0) [(3, 0), (3, 0), (3, 0), (3, 0), (1, 0)] (fun _ => 0)) j := fun j hj => match j, hj with
  | 0, _ => rfl
  | 1, _ => rfl
  | 2, _ => rfl
  | 3, _ => rfl
  | 4, _ => rfl
  | j + 5, hj => absurd hj (by omega)
set_option maxRecDepth 100000 in
theorem zdf_X10 : ∀ j, j < 9 → defaultValue (tyX10 j) = vp_V (zfs (fun _ => 0) [(3, 0), (3, 0), (3, 0), (3, 0), (3, 0), (3, 0), (3, 0), (3, 0), (3, 0)] (fun _ => 0)) j := fun j hj => match j, hj with
  | 0, _ => rfl
  | 1, _ => rfl
  | 2, _ => rfl
  | 3, _ => rfl
  | 4, _ => rfl
  | 5, _ => rfl
  | 6, _ => rfl
  | 7, _ => rfl
  | 8, _ => rfl
  | j + 9, hj => absurd hj (by omega)
theorem zkk_X0_9 : zKl RX0 9 5 1 [(3, 0)] := ⟨RX5, TX5, tyX5, rfl, zin_X5, tyX5_ok, zkl_X0_9, zis_X5, zii_X5, zdf_X5, by decide⟩
theorem zkk_X1_9 : zKl RX1 9 0 2 [(3, 0), (3, 0)] := ⟨RX0, TX0, tyX0, rfl, zin_X0, tyX0_ok, zkl_X1_9, zis_X0, zii_X0, zdf_X0, by decide⟩
theorem zkk_X1_20 : zKl RX1 20 7 2 [(3, 0), (3, 0)] := ⟨RX7, TX7, tyX7, rfl, zin_X7, tyX7_ok, zkl_X1_20, zis_X7, zii_X7, zdf_X7, by decide⟩
theorem zkk_X1_27 : zKl RX1 27 5 1 [(3, 0)] := ⟨RX5, TX5, tyX5, rfl, zin_X5, tyX5_ok, zkl_X1_27, zis_X5, zii_X5, zdf_X5, by decide⟩
theorem zkk_X10_7 : zKl RX10 7 6 8 [(3, 0), (3, 0), (3, 0), (3, 0), (3, 0), (3, 0), (3, 0), (3, 0)] := ⟨RX6, TX6, tyX6, rfl, zin_X6, tyX6_ok, zkl_X10_7, zis_X6, zii_X6, zdf_X6, by decide⟩
theorem zkk_X10_16 : zKl RX10 16 3 2 [(3, 0), (1, 0)] := ⟨RX3, TX3, tyX3, rfl, zin_X3, tyX3_ok, zkl_X10_16, zis_X3, zii_X3, zdf_X3, by decide⟩
theorem zkk_X10_23 : zKl RX10 23 2 2 [(3, 0), (1, 0)] := ⟨RX2, TX2, tyX2, rfl, zin_X2, tyX2_ok, zkl_X10_23, zis_X2, zii_X2, zdf_X2, by decide⟩
theorem zkk_X10_33 : zKl RX10 33 0 2 [(3, 0), (3, 0)] := ⟨RX0, TX0, tyX0, rfl, zin_X0, tyX0_ok, zkl_X10_33, zis_X0, zii_X0, zdf_X0, by decide⟩
theorem zkk_X10_42 : zKl RX10 42 9 5 [(3, 0), (3, 0), (3, 0), (3, 0), (1, 0)] := ⟨RX9, TX9, tyX9, rfl, zin_X9, tyX9_ok, zkl_X10_42, zis_X9, zii_X9, zdf_X9, by decide⟩
theorem zkk_X10_49 : zKl RX10 49 8 7 [(3, 0), (3, 0), (3, 0), (3, 0), (3, 0), (3, 0), (1, 0)] := ⟨RX8, TX8, tyX8, rfl, zin_X8, tyX8_ok, zkl_X10_49, zis_X8, zii_X8, zdf_X8, by decide⟩
theorem zkk_X10_56 : zKl RX10 56 1 6 [(3, 0), (3, 0), (3, 0), (3, 0), (1, 0), (2, 0)] := ⟨RX1, TX1, tyX1, rfl, zin_X1, tyX1_ok, zkl_X10_56, zis_X1, zii_X1, zdf_X1, by decide⟩
theorem zkk_X10_63 : zKl RX10 63 4 7 [(3, 0), (3, 0), (3, 0), (3, 0), (3, 0), (1, 0), (1, 0)] := ⟨RX4, TX4, tyX4, rfl, zin_X4, tyX4_ok, zkl_X10_63, zis_X4, zii_X4, zdf_X4, by decide⟩
theorem zkk_X2_7 : zKl RX2 7 6 8 [(3, 0), (3, 0), (3, 0), (3, 0), (3, 0), (3, 0), (3, 0), (3, 0)] := ⟨RX6, TX6, tyX6, rfl, zin_X6, tyX6_ok, zkl_X2_7, zis_X6, zii_X6, zdf_X6, by decide⟩
theorem zkk_X3_9 : zKl RX3 9 5 1 [(3, 0)] := ⟨RX5, TX5, tyX5, rfl, zin_X5, tyX5_ok, zkl_X3_9, zis_X5, zii_X5, zdf_X5, by decide⟩
theorem zkk_X4_9 : zKl RX4 9 0 2 [(3, 0), (3, 0)] := ⟨RX0, TX0, tyX0, rfl, zin_X0, tyX0_ok, zkl_X4_9, zis_X0, zii_X0, zdf_X0, by decide⟩
theorem zkk_X4_20 : zKl RX4 20 7 2 [(3, 0), (3, 0)] := ⟨RX7, TX7, tyX7, rfl, zin_X7, tyX7_ok, zkl_X4_20, zis_X7, zii_X7, zdf_X7, by decide⟩
theorem zkk_X4_27 : zKl RX4 27 5 1 [(3, 0)] := ⟨RX5, TX5, tyX5, rfl, zin_X5, tyX5_ok, zkl_X4_27, zis_X5, zii_X5, zdf_X5, by decide⟩
theorem zkk_X6_9 : zKl RX6 9 5 1 [(3, 0)] := ⟨RX5, TX5, tyX5, rfl, zin_X5, tyX5_ok, zkl_X6_9, zis_X5, zii_X5, zdf_X5, by decide⟩
theorem zkk_X7_9 : zKl RX7 9 5 1 [(3, 0)] := ⟨RX5, TX5, tyX5, rfl, zin_X5, tyX5_ok, zkl_X7_9, zis_X5, zii_X5, zdf_X5, by decide⟩
theorem zkk_X8_9 : zKl RX8 9 0 2 [(3, 0), (3, 0)] := ⟨RX0, TX0, tyX0, rfl, zin_X0, tyX0_ok, zkl_X8_9, zis_X0, zii_X0, zdf_X0, by decide⟩
theorem zkk_X8_20 : zKl RX8 20 7 2 [(3, 0), (3, 0)] := ⟨RX7, TX7, tyX7, rfl, zin_X7, tyX7_ok, zkl_X8_20, zis_X7, zii_X7, zdf_X7, by decide⟩
theorem zkk_X8_27 : zKl RX8 27 5 1 [(3, 0)] := ⟨RX5, TX5, tyX5, rfl, zin_X5, tyX5_ok, zkl_X8_27, zis_X5, zii_X5, zdf_X5, by decide⟩
theorem zkk_X9_9 : zKl RX9 9 0 2 [(3, 0), (3, 0)] := ⟨RX0, TX0, tyX0, rfl, zin_X0, tyX0_ok, zkl_X9_9, zis_X0, zii_X0, zdf_X0, by decide⟩
theorem zkk_X9_20 : zKl RX9 20 7 2 [(3, 0), (3, 0)] := ⟨RX7, TX7, tyX7, rfl, zin_X7, tyX7_ok, zkl_X9_20, zis_X7, zii_X7, zdf_X7, by decide⟩
theorem zkk_X9_27 : zKl RX9 27 5 1 [(3, 0)] := ⟨RX5, TX5, tyX5, rfl, zin_X5, tyX5_ok, zkl_X9_27, zis_X5, zii_X5, zdf_X5, by decide⟩
theorem zFF_X0_14 : zFF RX0 14 0 0 := ⟨RX0, TX0, 2, tyX0, tyX0 0, rfl, by decide, zT_mem 191 (by decide +kernel) rfl, rfl, zin_X0, tyX0_ok, nmX0, by decide +kernel, rfl, tyX0_ok 0 (by decide), fun a => ⟨rfl, rfl⟩⟩
theorem zFF_X0_20 : zFF RX0 20 0 1 := ⟨RX0, TX0, 2, tyX0, tyX0 1, rfl, by decide, zT_mem 192 (by decide +kernel) rfl, rfl, zin_X0, tyX0_ok, nmX0, by decide +kernel, rfl, tyX0_ok 1 (by decide), fun a => ⟨rfl, rfl⟩⟩
theorem zFF_X1_16 : zFF RX1 16 1 0 := ⟨RX1, TX1, 6, tyX1, tyX1 0, rfl, by decide, zT_mem 294 (by decide +kernel) rfl, rfl, zin_X1, tyX1_ok, nmX1, by decide +kernel, rfl, tyX1_ok 0 (by decide), fun a => ⟨rfl, rfl⟩⟩
theorem zFF_X1_23 : zFF RX1 23 1 1 := ⟨RX1, TX1, 6, tyX1, tyX1 1, rfl, by decide, zT_mem 295 (by decide +kernel) rfl, rfl, zin_X1, tyX1_ok, nmX1, by decide +kernel, rfl, tyX1_ok 1 (by decide), fun a => ⟨rfl, rfl⟩⟩
theorem zFF_X1_30 : zFF RX1 30 1 2 := ⟨RX1, TX1, 6, tyX1, tyX1 2, rfl, by decide, zT_mem 296 (by decide +kernel) rfl, rfl, zin_X1, tyX1_ok, nmX1, by decide +kernel, rfl, tyX1_ok 2 (by decide), fun a => ⟨rfl, rfl⟩⟩
theorem zFF_X1_34 : zFF RX1 34 1 3 := ⟨RX1, TX1, 6, tyX1, tyX1 3, rfl, by decide, zT_mem 297 (by decide +kernel) rfl, rfl, zin_X1, tyX1_ok, nmX1, by decide +kernel, rfl, tyX1_ok 3 (by decide), fun a => ⟨rfl, rfl⟩⟩
theorem zFF_X10_10 : zFF RX10 10 10 0 := ⟨RX10, TX10, 9, tyX10, tyX10 0, rfl, by decide, zT_mem 348 (by decide +kernel) rfl, rfl, zin_X10, tyX10_ok, nmX10, by decide +kernel, rfl, tyX10_ok 0 (by decide), fun a => ⟨rfl, rfl⟩⟩
theorem zFF_X10_19 : zFF RX10 19 10 1 := ⟨RX10, TX10, 9, tyX10, tyX10 1, rfl, by decide, zT_mem 349 (by decide +kernel) rfl, rfl, zin_X10, tyX10_ok, nmX10, by decide +kernel, rfl, tyX10_ok 1 (by decide), fun a => ⟨rfl, rfl⟩⟩
theorem zFF_X10_26 : zFF RX10 26 10 2 := ⟨RX10, TX10, 9, tyX10, tyX10 2, rfl, by decide, zT_mem 350 (by decide +kernel) rfl, rfl, zin_X10, tyX10_ok, nmX10, by decide +kernel, rfl, tyX10_ok 2 (by decide), fun a => ⟨rfl, rfl⟩⟩
theorem zFF_X10_30 : zFF RX10 30 10 3 := ⟨RX10, TX10, 9, tyX10, tyX10 3, rfl, by decide, zT_mem 351 (by decide +kernel) rfl, rfl, zin_X10, tyX10_ok, nmX10, by decide +kernel, rfl, tyX10_ok 3 (by decide), fun a => ⟨rfl, rfl⟩⟩
theorem zFF_X10_38 : zFF RX10 38 10 4 := ⟨RX10, TX10, 9, tyX10, tyX10 4, rfl, by decide, zT_mem 352 (by decide +kernel) rfl, rfl, zin_X10, tyX10_ok, nmX10, by decide +kernel, rfl, tyX10_ok 4 (by decide), fun a => ⟨rfl, rfl⟩⟩
theorem zFF_X10_45 : zFF RX10 45 10 5 := ⟨RX10, TX10, 9, tyX10, tyX10 5, rfl, by decide, zT_mem 353 (by decide +kernel) rfl, rfl, zin_X10, tyX10_ok, nmX10, by decide +kernel, rfl, tyX10_ok 5 (by decide), fun a => ⟨rfl, rfl⟩⟩
theorem zFF_X10_52 : zFF RX10 52 10 6 := ⟨RX10, TX10, 9, tyX10, tyX10 6, rfl, by decide, zT_mem 354 (by decide +kernel) rfl, rfl, zin_X10, tyX10_ok, nmX10, by decide +kernel, rfl, tyX10_ok 6 (by decide), fun a => ⟨rfl, rfl⟩⟩
theorem zFF_X10_59 : zFF RX10 59 10 7 := ⟨RX10, TX10, 9, tyX10, tyX10 7, rfl, by decide, zT_mem 355 (by decide +kernel) rfl, rfl, zin_X10, tyX10_ok, nmX10, by decide +kernel, rfl, tyX10_ok 7 (by decide), fun a => ⟨rfl, rfl⟩⟩
theorem zFF_X10_66 : zFF RX10 66 10 8 := ⟨RX10, TX10, 9, tyX10, tyX10 8, rfl, by decide, zT_mem 356 (by decide +kernel) rfl, rfl, zin_X10, tyX10_ok, nmX10, by decide +kernel, rfl, tyX10_ok 8 (by decide), fun a => ⟨rfl, rfl⟩⟩
theorem zFF_X2_10 : zFF RX2 10 2 0 := ⟨RX2, TX2, 2, tyX2, tyX2 0, rfl, by decide, zT_mem 176 (by decide +kernel) rfl, rfl, zin_X2, tyX2_ok, nmX2, by decide +kernel, rfl, tyX2_ok 0 (by decide), fun a => ⟨rfl, rfl⟩⟩
theorem zFF_X3_14 : zFF RX3 14 3 0 := ⟨RX3, TX3, 2, tyX3, tyX3 0, rfl, by decide, zT_mem 161 (by decide +kernel) rfl, rfl, zin_X3, tyX3_ok, nmX3, by decide +kernel, rfl, tyX3_ok 0 (by decide), fun a => ⟨rfl, rfl⟩⟩
theorem zFF_X4_14 : zFF RX4 14 4 0 := ⟨RX4, TX4, 7, tyX4, tyX4 0, rfl, by decide, zT_mem 326 (by decide +kernel) rfl, rfl, zin_X4, tyX4_ok, nmX4, by decide +kernel, rfl, tyX4_ok 0 (by decide), fun a => ⟨rfl, rfl⟩⟩
theorem zFF_X4_23 : zFF RX4 23 4 1 := ⟨RX4, TX4, 7, tyX4, tyX4 1, rfl, by decide, zT_mem 327 (by decide +kernel) rfl, rfl, zin_X4, tyX4_ok, nmX4, by decide +kernel, rfl, tyX4_ok 1 (by decide), fun a => ⟨rfl, rfl⟩⟩
theorem zFF_X4_30 : zFF RX4 30 4 2 := ⟨RX4, TX4, 7, tyX4, tyX4 2, rfl, by decide, zT_mem 328 (by decide +kernel) rfl, rfl, zin_X4, tyX4_ok, nmX4, by decide +kernel, rfl, tyX4_ok 2 (by decide), fun a => ⟨rfl, rfl⟩⟩
theorem zFF_X4_34 : zFF RX4 34 4 3 := ⟨RX4, TX4, 7, tyX4, tyX4 3, rfl, by decide, zT_mem 329 (by decide +kernel) rfl, rfl, zin_X4, tyX4_ok, nmX4, by decide +kernel, rfl, tyX4_ok 3 (by decide), fun a => ⟨rfl, rfl⟩⟩
theorem zFF_X4_37 : zFF RX4 37 4 4 := ⟨RX4, TX4, 7, tyX4, tyX4 4, rfl, by decide, zT_mem 330 (by decide +kernel) rfl, rfl, zin_X4, tyX4_ok, nmX4, by decide +kernel, rfl, tyX4_ok 4 (by decide), fun a => ⟨rfl, rfl⟩⟩
theorem zFF_X5_13 : zFF RX5 13 5 0 := ⟨RX5, TX5, 1, tyX5, tyX5 0, rfl, by decide, zT_mem 97 (by decide +kernel) rfl, rfl, zin_X5, tyX5_ok, nmX5, by decide +kernel, rfl, tyX5_ok 0 (by decide), fun a => ⟨rfl, rfl⟩⟩
theorem zFF_X6_14 : zFF RX6 14 6 0 := ⟨RX6, TX6, 8, tyX6, tyX6 0, rfl, by decide, zT_mem 115 (by decide +kernel) rfl, rfl, zin_X6, tyX6_ok, nmX6, by decide +kernel, rfl, tyX6_ok 0 (by decide), fun a => ⟨rfl, rfl⟩⟩
theorem zFF_X6_20 : zFF RX6 20 6 1 := ⟨RX6, TX6, 8, tyX6, tyX6 1, rfl, by decide, zT_mem 119 (by decide +kernel) rfl, rfl, zin_X6, tyX6_ok, nmX6, by decide +kernel, rfl, tyX6_ok 1 (by decide), fun a => ⟨rfl, rfl⟩⟩
theorem zFF_X6_23 : zFF RX6 23 6 2 := ⟨RX6, TX6, 8, tyX6, tyX6 2, rfl, by decide, zT_mem 122 (by decide +kernel) rfl, rfl, zin_X6, tyX6_ok, nmX6, by decide +kernel, rfl, tyX6_ok 2 (by decide), fun a => ⟨rfl, rfl⟩⟩
theorem zFF_X6_26 : zFF RX6 26 6 3 := ⟨RX6, TX6, 8, tyX6, tyX6 3, rfl, by decide, zT_mem 123 (by decide +kernel) rfl, rfl, zin_X6, tyX6_ok, nmX6, by decide +kernel, rfl, tyX6_ok 3 (by decide), fun a => ⟨rfl, rfl⟩⟩
theorem zFF_X6_29 : zFF RX6 29 6 4 := ⟨RX6, TX6, 8, tyX6, tyX6 4, rfl, by decide, zT_mem 126 (by decide +kernel) rfl, rfl, zin_X6, tyX6_ok, nmX6, by decide +kernel, rfl, tyX6_ok 4 (by decide), fun a => ⟨rfl, rfl⟩⟩
theorem zFF_X6_32 : zFF RX6 32 6 5 := ⟨RX6, TX6, 8, tyX6, tyX6 5, rfl, by decide, zT_mem 129 (by decide +kernel) rfl, rfl, zin_X6, tyX6_ok, nmX6, by decide +kernel, rfl, tyX6_ok 5 (by decide), fun a => ⟨rfl, rfl⟩⟩
theorem zFF_X6_35 : zFF RX6 35 6 6 := ⟨RX6, TX6, 8, tyX6, tyX6 6, rfl, by decide, zT_mem 130 (by decide +kernel) rfl, rfl, zin_X6, tyX6_ok, nmX6, by decide +kernel, rfl, tyX6_ok 6 (by decide), fun a => ⟨rfl, rfl⟩⟩
theorem zFF_X6_38 : zFF RX6 38 6 7 := ⟨RX6, TX6, 8, tyX6, tyX6 7, rfl, by decide, zT_mem 133 (by decide +kernel) rfl, rfl, zin_X6, tyX6_ok, nmX6, by decide +kernel, rfl, tyX6_ok 7 (by decide), fun a => ⟨rfl, rfl⟩⟩
theorem zFF_X7_14 : zFF RX7 14 7 0 := ⟨RX7, TX7, 2, tyX7, tyX7 0, rfl, by decide, zT_mem 214 (by decide +kernel) rfl, rfl, zin_X7, tyX7_ok, nmX7, by decide +kernel, rfl, tyX7_ok 0 (by decide), fun a => ⟨rfl, rfl⟩⟩
theorem zFF_X7_20 : zFF RX7 20 7 1 := ⟨RX7, TX7, 2, tyX7, tyX7 1, rfl, by decide, zT_mem 215 (by decide +kernel) rfl, rfl, zin_X7, tyX7_ok, nmX7, by decide +kernel, rfl, tyX7_ok 1 (by decide), fun a => ⟨rfl, rfl⟩⟩
theorem zFF_X8_14 : zFF RX8 14 8 0 := ⟨RX8, TX8, 7, tyX8, tyX8 0, rfl, by decide, zT_mem 251 (by decide +kernel) rfl, rfl, zin_X8, tyX8_ok, nmX8, by decide +kernel, rfl, tyX8_ok 0 (by decide), fun a => ⟨rfl, rfl⟩⟩
theorem zFF_X8_23 : zFF RX8 23 8 1 := ⟨RX8, TX8, 7, tyX8, tyX8 1, rfl, by decide, zT_mem 252 (by decide +kernel) rfl, rfl, zin_X8, tyX8_ok, nmX8, by decide +kernel, rfl, tyX8_ok 1 (by decide), fun a => ⟨rfl, rfl⟩⟩
theorem zFF_X8_30 : zFF RX8 30 8 2 := ⟨RX8, TX8, 7, tyX8, tyX8 2, rfl, by decide, zT_mem 253 (by decide +kernel) rfl, rfl, zin_X8, tyX8_ok, nmX8, by decide +kernel, rfl, tyX8_ok 2 (by decide), fun a => ⟨rfl, rfl⟩⟩
theorem zFF_X8_34 : zFF RX8 34 8 3 := ⟨RX8, TX8, 7, tyX8, tyX8 3, rfl, by decide, zT_mem 254 (by decide +kernel) rfl, rfl, zin_X8, tyX8_ok, nmX8, by decide +kernel, rfl, tyX8_ok 3 (by decide), fun a => ⟨rfl, rfl⟩⟩
theorem zFF_X8_37 : zFF RX8 37 8 4 := ⟨RX8, TX8, 7, tyX8, tyX8 4, rfl, by decide, zT_mem 255 (by decide +kernel) rfl, rfl, zin_X8, tyX8_ok, nmX8, by decide +kernel, rfl, tyX8_ok 4 (by decide), fun a => ⟨rfl, rfl⟩⟩
theorem zFF_X8_40 : zFF RX8 40 8 5 := ⟨RX8, TX8, 7, tyX8, tyX8 5, rfl, by decide, zT_mem 256 (by decide +kernel) rfl, rfl, zin_X8, tyX8_ok, nmX8, by decide +kernel, rfl, tyX8_ok 5 (by decide), fun a => ⟨rfl, rfl⟩⟩
theorem zFF_X9_14 : zFF RX9 14 9 0 := ⟨RX9, TX9, 5, tyX9, tyX9 0, rfl, by decide, zT_mem 223 (by decide +kernel) rfl, rfl, zin_X9, tyX9_ok, nmX9, by decide +kernel, rfl, tyX9_ok 0 (by decide), fun a => ⟨rfl, rfl⟩⟩
theorem zFF_X9_23 : zFF RX9 23 9 1 := ⟨RX9, TX9, 5, tyX9, tyX9 1, rfl, by decide, zT_mem 224 (by decide +kernel) rfl, rfl, zin_X9, tyX9_ok, nmX9, by decide +kernel, rfl, tyX9_ok 1 (by decide), fun a => ⟨rfl, rfl⟩⟩
theorem zFF_X9_30 : zFF RX9 30 9 2 := ⟨RX9, TX9, 5, tyX9, tyX9 2, rfl, by decide, zT_mem 225 (by decide +kernel) rfl, rfl, zin_X9, tyX9_ok, nmX9, by decide +kernel, rfl, tyX9_ok 2 (by decide), fun a => ⟨rfl, rfl⟩⟩
theorem zFF_X9_34 : zFF RX9 34 9 3 := ⟨RX9, TX9, 5, tyX9, tyX9 3, rfl, by decide, zT_mem 226 (by decide +kernel) rfl, rfl, zin_X9, tyX9_ok, nmX9, by decide +kernel, rfl, tyX9_ok 3 (by decide), fun a => ⟨rfl, rfl⟩⟩

set_option maxRecDepth 100000 in
theorem cn_X5 {p q len : Nat} {sh : Nat → zShc} {μ : zMem} (hr : zRow 150 zSX p q len) (hq : q = p + 1) (hs : zsok p sh) {a : Int} (ha : a = (len : Int)) : Cn kX5_init 2 (p + 1) (zu p 5 [(3, 0)] sh) [zP p, zI a] μ (p + 2) (zd p sh) 1 len (fun μ' => μ' = zrow μ (p + 1) (fun _ => 0)) := by
  subst hq
  have h0 : p < 150 := hr.1
  have h1 : zSX p = (0, 5, [(0, p + 1)]) := hr.2.1
  have h4 : zSX (p + 1) = (1, len, []) := hr.2.2.2.1
  have h5 : len ≤ 100000 := hr.2.2.2.2
  refine Cn.of [some (zP p), some (zI a)] rfl (Nat.le_of_ble_eq_true rfl) (by decide +kernel) rfl (fun Γ ad sz hO hG hN hR => ?_)
  have had : zag (p + 1) ad ad := zag.rfl'
  refine zY.aload_n hO dX5_init_0 rfl ?_
  refine zY.objI zml_X5_1 (by decide) rfl (Nat.le_of_ble_eq_true rfl) hO dX5_init_1 ?_
  refine zY.aload_n hO dX5_init_4 rfl ?_
  refine zY.iconst hO dX5_init_5 ?_
  refine zY.iload_n hO dX5_init_6 rfl ?_
  refine zY.mmax ⟨by omega, by omega⟩ ⟨by omega, by omega⟩ zmx_X5_7 (Nat.le_of_ble_eq_true rfl) (by decide) rfl (hG.le (Nat.zero_le _) (Nat.zero_le _)) hO dX5_init_7 ?_
  refine zY.newI (n1 := p + 2) (c1 := 1) (s1 := len) (len := len) (sh' := zu p 5 [(3, 0)] sh) (by omega) h5 hG had (Nat.le_refl _) (by omega) (zsok_one hs (by decide)) ((zu_gt (by omega)).trans h4) (fun _ _ => rfl) (zlwL_some (zlw_P (Or.inl (by omega))) (zlwL_some zlw_I zlwL_nil)) (zlwS_cons (zlw_P (Or.inl (by omega))) zlwS_nil) rfl rfl (by omega) ⟨Nat.le_refl _, Nat.le_refl _⟩ hO dX5_init_10 (fun ad2 had => ?_)
  refine zY.putF (fl := [(3, 0)]) zFF_X5_13 hN (by omega) (by decide) rfl hO dX5_init_12 ?_
  exact zY.cret rfl hR rfl had rfl (fun q _ => zu_zd h1 q) rfl rfl hO dX5_init_15

set_option maxRecDepth 100000 in
set_option maxHeartbeats 4000000 in
theorem cn_X0_57 {sh : Nat → zShc} {μ : zMem} (hs0 : zsok 57 sh) {a : Int} (ha : a = 6) : Cn kX0_init 4 58 (zu 57 0 [(3, 0), (3, 0)] sh) [zP 57, zI a] μ 62 (zd 57 sh) 4 44 (fun μ' => ∀ q, q < 57 → μ' q = μ q) := by
  refine Cn.of [some (zP 57), some (zI a)] rfl (Nat.le_of_ble_eq_true rfl) (by decide +kernel) rfl (fun Γ ad sz hO hG hN hR => ?_)
  have had : zag 58 ad ad := zag.rfl'
  have hk : ∀ q, q < 57 → μ q = μ q := fun _ _ => rfl
  refine zY.aload_n hO dX0_init_0 rfl ?_
  refine zY.objI zml_X0_3 (by decide) rfl (Nat.le_of_ble_eq_true rfl) hO dX0_init_1 ?_
  refine zY.aload_n hO dX0_init_4 rfl ?_
  refine zY.new (sh' := (zu 58 5 [(3, 0)] (zu 57 0 [(3, 0), (3, 0)] sh))) (n1 := 59) (c1 := 1) (s1 := 1) zkk_X0_9 hG had (by decide) (by decide) (zsok_zu hs0 (by decide) (by decide +kernel)) zu_eq (fun q h => zu_lt h) (zlwL_some (zlw_P (Or.inl (by decide))) (zlwL_some zlw_I zlwL_nil)) (zlwS_cons (zlw_P (Or.inl (by decide))) zlwS_nil) rfl rfl rfl ⟨by decide, by decide⟩ hO dX0_init_5 (fun ad1 had => ?_)
  refine zY.dup rfl hO dX0_init_8 ?_
  refine zY.iload_n hO dX0_init_9 rfl ?_
  refine zY.bipush hO dX0_init_10 (by decide) ?_
  refine zY.imul hO dX0_init_12 ?_
  refine zY.callI1 (n' := 60) (sh' := (zu 57 0 [(3, 0), (3, 0)] sh)) (c1 := 2) (s1 := 37) (cn_X5 zrw_58 rfl (zsok_zu hs0 (by decide) (by decide +kernel)) (len := 36) (by omega)) (by decide) zcal_X5_init rfl rfl zml_X0_11 (Nat.le_of_ble_eq_true rfl) rfl hG had (by decide) (fun q _ => zd_zu (by decide) q) (zlwL_some (zlw_P (Or.inl (by decide))) (zlwL_some zlw_I zlwL_nil)) (zlwS_cons (zlw_P (Or.inl (by decide))) (zlwS_cons (zlw_P (Or.inl (by decide))) zlwS_nil)) rfl rfl ⟨by decide, by decide⟩ hO dX0_init_13 (fun ad2 μ2 had hq2 => ?_)
  have hk : ∀ q, q < 57 → μ2 q = μ q := fun q h => Eq.trans (b := μ q) (by rw [hq2, zrow_ne (by omega), zrow_ne (by omega)]) (hk q h)
  refine zY.putF (p := 57) (fl := [(3, 0), (3, 0)]) (fl' := [(0, 58), (3, 0)]) zFF_X0_14 hN (by decide) (by decide) rfl hO dX0_init_16 ?_
  refine zY.aload_n hO dX0_init_19 rfl ?_
  refine zY.new (sh' := (zu 60 5 [(3, 0)] (zu 57 0 [(0, 58), (3, 0)] sh))) (n1 := 61) (c1 := 3) (s1 := 38) zkk_X0_9 hG had (by decide) (by decide) (zsok_zu hs0 (by decide) (by decide +kernel)) zu_eq (fun q h => zu_lt h) (zlwL_some (zlw_P (Or.inl (by decide))) (zlwL_some zlw_I zlwL_nil)) (zlwS_cons (zlw_P (Or.inl (by decide))) zlwS_nil) rfl rfl rfl ⟨by decide, by decide⟩ hO dX0_init_20 (fun ad3 had => ?_)
  refine zY.dup rfl hO dX0_init_23 ?_
  refine zY.iload_n hO dX0_init_24 rfl ?_
  refine zY.callI1 (n' := 62) (sh' := (zu 57 0 [(0, 58), (3, 0)] sh)) (c1 := 4) (s1 := 44) (cn_X5 zrw_60 rfl (zsok_zu hs0 (by decide) (by decide +kernel)) (len := 6) (by omega)) (by decide) zcal_X5_init rfl rfl zml_X0_11 (Nat.le_of_ble_eq_true rfl) rfl hG had (by decide) (fun q _ => zd_zu (by decide) q) (zlwL_some (zlw_P (Or.inl (by decide))) (zlwL_some zlw_I zlwL_nil)) (zlwS_cons (zlw_P (Or.inl (by decide))) (zlwS_cons (zlw_P (Or.inl (by decide))) zlwS_nil)) rfl rfl ⟨by decide, by decide⟩ hO dX0_init_25 (fun ad4 μ4 had hq4 => ?_)
  have hk : ∀ q, q < 57 → μ4 q = μ q := fun q h => Eq.trans (b := μ2 q) (by rw [hq4, zrow_ne (by omega), zrow_ne (by omega)]) (hk q h)
  refine zY.putF (p := 57) (fl := [(0, 58), (3, 0)]) (fl' := [(0, 58), (0, 60)]) zFF_X0_20 hN (by decide) (by decide) rfl hO dX0_init_28 ?_
  exact zY.cret rfl hR (hk) had rfl (fun q _ => zu_zd rfl q) rfl rfl hO dX0_init_31

set_option maxRecDepth 100000 in
set_option maxHeartbeats 4000000 in
theorem cn_X0_63 {sh : Nat → zShc} {μ : zMem} (hs0 : zsok 63 sh) {a : Int} (ha : a = 6) : Cn kX0_init 4 64 (zu 63 0 [(3, 0), (3, 0)] sh) [zP 63, zI a] μ 68 (zd 63 sh) 4 44 (fun μ' => ∀ q, q < 63 → μ' q = μ q) := by
  refine Cn.of [some (zP 63), some (zI a)] rfl (Nat.le_of_ble_eq_true rfl) (by decide +kernel) rfl (fun Γ ad sz hO hG hN hR => ?_)
  have had : zag 64 ad ad := zag.rfl'
  have hk : ∀ q, q < 63 → μ q = μ q := fun _ _ => rfl
  refine zY.aload_n hO dX0_init_0 rfl ?_
  refine zY.objI zml_X0_3 (by decide) rfl (Nat.le_of_ble_eq_true rfl) hO dX0_init_1 ?_
  refine zY.aload_n hO dX0_init_4 rfl ?_
  refine zY.new (sh' := (zu 64 5 [(3, 0)] (zu 63 0 [(3, 0), (3, 0)] sh))) (n1 := 65) (c1 := 1) (s1 := 1) zkk_X0_9 hG had (by decide) (by decide) (zsok_zu hs0 (by decide) (by decide +kernel)) zu_eq (fun q h => zu_lt h) (zlwL_some (zlw_P (Or.inl (by decide))) (zlwL_some zlw_I zlwL_nil)) (zlwS_cons (zlw_P (Or.inl (by decide))) zlwS_nil) rfl rfl rfl ⟨by decide, by decide⟩ hO dX0_init_5 (fun ad1 had => ?_)
  refine zY.dup rfl hO dX0_init_8 ?_
  refine zY.iload_n hO dX0_init_9 rfl ?_
  refine zY.bipush hO dX0_init_10 (by decide) ?_
  refine zY.imul hO dX0_init_12 ?_
  refine zY.callI1 (n' := 66) (sh' := (zu 63 0 [(3, 0), (3, 0)] sh)) (c1 := 2) (s1 := 37) (cn_X5 zrw_64 rfl (zsok_zu hs0 (by decide) (by decide +kernel)) (len := 36) (by omega)) (by decide) zcal_X5_init rfl rfl zml_X0_11 (Nat.le_of_ble_eq_true rfl) rfl hG had (by decide) (fun q _ => zd_zu (by decide) q) (zlwL_some (zlw_P (Or.inl (by decide))) (zlwL_some zlw_I zlwL_nil)) (zlwS_cons (zlw_P (Or.inl (by decide))) (zlwS_cons (zlw_P (Or.inl (by decide))) zlwS_nil)) rfl rfl ⟨by decide, by decide⟩ hO dX0_init_13 (fun ad2 μ2 had hq2 => ?_)
  have hk : ∀ q, q < 63 → μ2 q = μ q := fun q h => Eq.trans (b := μ q) (by rw [hq2, zrow_ne (by omega), zrow_ne (by omega)]) (hk q h)
  refine zY.putF (p := 63) (fl := [(3, 0), (3, 0)]) (fl' := [(0, 64), (3, 0)]) zFF_X0_14 hN (by decide) (by decide) rfl hO dX0_init_16 ?_
  refine zY.aload_n hO dX0_init_19 rfl ?_
  refine zY.new (sh' := (zu 66 5 [(3, 0)] (zu 63 0 [(0, 64), (3, 0)] sh))) (n1 := 67) (c1 := 3) (s1 := 38) zkk_X0_9 hG had (by decide) (by decide) (zsok_zu hs0 (by decide) (by decide +kernel)) zu_eq (fun q h => zu_lt h) (zlwL_some (zlw_P (Or.inl (by decide))) (zlwL_some zlw_I zlwL_nil)) (zlwS_cons (zlw_P (Or.inl (by decide))) zlwS_nil) rfl rfl rfl ⟨by decide, by decide⟩ hO dX0_init_20 (fun ad3 had => ?_)
  refine zY.dup rfl hO dX0_init_23 ?_
  refine zY.iload_n hO dX0_init_24 rfl ?_
  refine zY.callI1 (n' := 68) (sh' := (zu 63 0 [(0, 64), (3, 0)] sh)) (c1 := 4) (s1 := 44) (cn_X5 zrw_66 rfl (zsok_zu hs0 (by decide) (by decide +kernel)) (len := 6) (by omega)) (by decide) zcal_X5_init rfl rfl zml_X0_11 (Nat.le_of_ble_eq_true rfl) rfl hG had (by decide) (fun q _ => zd_zu (by decide) q) (zlwL_some (zlw_P (Or.inl (by decide))) (zlwL_some zlw_I zlwL_nil)) (zlwS_cons (zlw_P (Or.inl (by decide))) (zlwS_cons (zlw_P (Or.inl (by decide))) zlwS_nil)) rfl rfl ⟨by decide, by decide⟩ hO dX0_init_25 (fun ad4 μ4 had hq4 => ?_)
  have hk : ∀ q, q < 63 → μ4 q = μ q := fun q h => Eq.trans (b := μ2 q) (by rw [hq4, zrow_ne (by omega), zrow_ne (by omega)]) (hk q h)
  refine zY.putF (p := 63) (fl := [(0, 64), (3, 0)]) (fl' := [(0, 64), (0, 66)]) zFF_X0_20 hN (by decide) (by decide) rfl hO dX0_init_28 ?_
  exact zY.cret rfl hR (hk) had rfl (fun q _ => zu_zd rfl q) rfl rfl hO dX0_init_31

set_option maxRecDepth 100000 in
set_option maxHeartbeats 4000000 in
theorem cn_X0_78 {sh : Nat → zShc} {μ : zMem} (hs0 : zsok 78 sh) {a : Int} (ha : a = 6) : Cn kX0_init 4 79 (zu 78 0 [(3, 0), (3, 0)] sh) [zP 78, zI a] μ 83 (zd 78 sh) 4 44 (fun μ' => ∀ q, q < 78 → μ' q = μ q) := by
  refine Cn.of [some (zP 78), some (zI a)] rfl (Nat.le_of_ble_eq_true rfl) (by decide +kernel) rfl (fun Γ ad sz hO hG hN hR => ?_)
  have had : zag 79 ad ad := zag.rfl'
  have hk : ∀ q, q < 78 → μ q = μ q := fun _ _ => rfl
  refine zY.aload_n hO dX0_init_0 rfl ?_
  refine zY.objI zml_X0_3 (by decide) rfl (Nat.le_of_ble_eq_true rfl) hO dX0_init_1 ?_
  refine zY.aload_n hO dX0_init_4 rfl ?_
  refine zY.new (sh' := (zu 79 5 [(3, 0)] (zu 78 0 [(3, 0), (3, 0)] sh))) (n1 := 80) (c1 := 1) (s1 := 1) zkk_X0_9 hG had (by decide) (by decide) (zsok_zu hs0 (by decide) (by decide +kernel)) zu_eq (fun q h => zu_lt h) (zlwL_some (zlw_P (Or.inl (by decide))) (zlwL_some zlw_I zlwL_nil)) (zlwS_cons (zlw_P (Or.inl (by decide))) zlwS_nil) rfl rfl rfl ⟨by decide, by decide⟩ hO dX0_init_5 (fun ad1 had => ?_)
  refine zY.dup rfl hO dX0_init_8 ?_
  refine zY.iload_n hO dX0_init_9 rfl ?_
  refine zY.bipush hO dX0_init_10 (by decide) ?_
  refine zY.imul hO dX0_init_12 ?_
  refine zY.callI1 (n' := 81) (sh' := (zu 78 0 [(3, 0), (3, 0)] sh)) (c1 := 2) (s1 := 37) (cn_X5 zrw_79 rfl (zsok_zu hs0 (by decide) (by decide +kernel)) (len := 36) (by omega)) (by decide) zcal_X5_init rfl rfl zml_X0_11 (Nat.le_of_ble_eq_true rfl) rfl hG had (by decide) (fun q _ => zd_zu (by decide) q) (zlwL_some (zlw_P (Or.inl (by decide))) (zlwL_some zlw_I zlwL_nil)) (zlwS_cons (zlw_P (Or.inl (by decide))) (zlwS_cons (zlw_P (Or.inl (by decide))) zlwS_nil)) rfl rfl ⟨by decide, by decide⟩ hO dX0_init_13 (fun ad2 μ2 had hq2 => ?_)
  have hk : ∀ q, q < 78 → μ2 q = μ q := fun q h => Eq.trans (b := μ q) (by rw [hq2, zrow_ne (by omega), zrow_ne (by omega)]) (hk q h)
  refine zY.putF (p := 78) (fl := [(3, 0), (3, 0)]) (fl' := [(0, 79), (3, 0)]) zFF_X0_14 hN (by decide) (by decide) rfl hO dX0_init_16 ?_
  refine zY.aload_n hO dX0_init_19 rfl ?_
  refine zY.new (sh' := (zu 81 5 [(3, 0)] (zu 78 0 [(0, 79), (3, 0)] sh))) (n1 := 82) (c1 := 3) (s1 := 38) zkk_X0_9 hG had (by decide) (by decide) (zsok_zu hs0 (by decide) (by decide +kernel)) zu_eq (fun q h => zu_lt h) (zlwL_some (zlw_P (Or.inl (by decide))) (zlwL_some zlw_I zlwL_nil)) (zlwS_cons (zlw_P (Or.inl (by decide))) zlwS_nil) rfl rfl rfl ⟨by decide, by decide⟩ hO dX0_init_20 (fun ad3 had => ?_)
  refine zY.dup rfl hO dX0_init_23 ?_
  refine zY.iload_n hO dX0_init_24 rfl ?_
  refine zY.callI1 (n' := 83) (sh' := (zu 78 0 [(0, 79), (3, 0)] sh)) (c1 := 4) (s1 := 44) (cn_X5 zrw_81 rfl (zsok_zu hs0 (by decide) (by decide +kernel)) (len := 6) (by omega)) (by decide) zcal_X5_init rfl rfl zml_X0_11 (Nat.le_of_ble_eq_true rfl) rfl hG had (by decide) (fun q _ => zd_zu (by decide) q) (zlwL_some (zlw_P (Or.inl (by decide))) (zlwL_some zlw_I zlwL_nil)) (zlwS_cons (zlw_P (Or.inl (by decide))) (zlwS_cons (zlw_P (Or.inl (by decide))) zlwS_nil)) rfl rfl ⟨by decide, by decide⟩ hO dX0_init_25 (fun ad4 μ4 had hq4 => ?_)
  have hk : ∀ q, q < 78 → μ4 q = μ q := fun q h => Eq.trans (b := μ2 q) (by rw [hq4, zrow_ne (by omega), zrow_ne (by omega)]) (hk q h)
  refine zY.putF (p := 78) (fl := [(0, 79), (3, 0)]) (fl' := [(0, 79), (0, 81)]) zFF_X0_20 hN (by decide) (by decide) rfl hO dX0_init_28 ?_
  exact zY.cret rfl hR (hk) had rfl (fun q _ => zu_zd rfl q) rfl rfl hO dX0_init_31

set_option maxRecDepth 100000 in
set_option maxHeartbeats 4000000 in
theorem cn_X0_97 {sh : Nat → zShc} {μ : zMem} (hs0 : zsok 97 sh) {a : Int} (ha : a = 384) : Cn kX0_init 4 98 (zu 97 0 [(3, 0), (3, 0)] sh) [zP 97, zI a] μ 102 (zd 97 sh) 4 2690 (fun μ' => ∀ q, q < 97 → μ' q = μ q) := by
  refine Cn.of [some (zP 97), some (zI a)] rfl (Nat.le_of_ble_eq_true rfl) (by decide +kernel) rfl (fun Γ ad sz hO hG hN hR => ?_)
  have had : zag 98 ad ad := zag.rfl'
  have hk : ∀ q, q < 97 → μ q = μ q := fun _ _ => rfl
  refine zY.aload_n hO dX0_init_0 rfl ?_
  refine zY.objI zml_X0_3 (by decide) rfl (Nat.le_of_ble_eq_true rfl) hO dX0_init_1 ?_
  refine zY.aload_n hO dX0_init_4 rfl ?_
  refine zY.new (sh' := (zu 98 5 [(3, 0)] (zu 97 0 [(3, 0), (3, 0)] sh))) (n1 := 99) (c1 := 1) (s1 := 1) zkk_X0_9 hG had (by decide) (by decide) (zsok_zu hs0 (by decide) (by decide +kernel)) zu_eq (fun q h => zu_lt h) (zlwL_some (zlw_P (Or.inl (by decide))) (zlwL_some zlw_I zlwL_nil)) (zlwS_cons (zlw_P (Or.inl (by decide))) zlwS_nil) rfl rfl rfl ⟨by decide, by decide⟩ hO dX0_init_5 (fun ad1 had => ?_)
  refine zY.dup rfl hO dX0_init_8 ?_
  refine zY.iload_n hO dX0_init_9 rfl ?_
  refine zY.bipush hO dX0_init_10 (by decide) ?_
  refine zY.imul hO dX0_init_12 ?_
  refine zY.callI1 (n' := 100) (sh' := (zu 97 0 [(3, 0), (3, 0)] sh)) (c1 := 2) (s1 := 2305) (cn_X5 zrw_98 rfl (zsok_zu hs0 (by decide) (by decide +kernel)) (len := 2304) (by omega)) (by decide) zcal_X5_init rfl rfl zml_X0_11 (Nat.le_of_ble_eq_true rfl) rfl hG had (by decide) (fun q _ => zd_zu (by decide) q) (zlwL_some (zlw_P (Or.inl (by decide))) (zlwL_some zlw_I zlwL_nil)) (zlwS_cons (zlw_P (Or.inl (by decide))) (zlwS_cons (zlw_P (Or.inl (by decide))) zlwS_nil)) rfl rfl ⟨by decide, by decide⟩ hO dX0_init_13 (fun ad2 μ2 had hq2 => ?_)
  have hk : ∀ q, q < 97 → μ2 q = μ q := fun q h => Eq.trans (b := μ q) (by rw [hq2, zrow_ne (by omega), zrow_ne (by omega)]) (hk q h)
  refine zY.putF (p := 97) (fl := [(3, 0), (3, 0)]) (fl' := [(0, 98), (3, 0)]) zFF_X0_14 hN (by decide) (by decide) rfl hO dX0_init_16 ?_
  refine zY.aload_n hO dX0_init_19 rfl ?_
  refine zY.new (sh' := (zu 100 5 [(3, 0)] (zu 97 0 [(0, 98), (3, 0)] sh))) (n1 := 101) (c1 := 3) (s1 := 2306) zkk_X0_9 hG had (by decide) (by decide) (zsok_zu hs0 (by decide) (by decide +kernel)) zu_eq (fun q h => zu_lt h) (zlwL_some (zlw_P (Or.inl (by decide))) (zlwL_some zlw_I zlwL_nil)) (zlwS_cons (zlw_P (Or.inl (by decide))) zlwS_nil) rfl rfl rfl ⟨by decide, by decide⟩ hO dX0_init_20 (fun ad3 had => ?_)
  refine zY.dup rfl hO dX0_init_23 ?_
  refine zY.iload_n hO dX0_init_24 rfl ?_
  refine zY.callI1 (n' := 102) (sh' := (zu 97 0 [(0, 98), (3, 0)] sh)) (c1 := 4) (s1 := 2690) (cn_X5 zrw_100 rfl (zsok_zu hs0 (by decide) (by decide +kernel)) (len := 384) (by omega)) (by decide) zcal_X5_init rfl rfl zml_X0_11 (Nat.le_of_ble_eq_true rfl) rfl hG had (by decide) (fun q _ => zd_zu (by decide) q) (zlwL_some (zlw_P (Or.inl (by decide))) (zlwL_some zlw_I zlwL_nil)) (zlwS_cons (zlw_P (Or.inl (by decide))) (zlwS_cons (zlw_P (Or.inl (by decide))) zlwS_nil)) rfl rfl ⟨by decide, by decide⟩ hO dX0_init_25 (fun ad4 μ4 had hq4 => ?_)
  have hk : ∀ q, q < 97 → μ4 q = μ q := fun q h => Eq.trans (b := μ2 q) (by rw [hq4, zrow_ne (by omega), zrow_ne (by omega)]) (hk q h)
  refine zY.putF (p := 97) (fl := [(0, 98), (3, 0)]) (fl' := [(0, 98), (0, 100)]) zFF_X0_20 hN (by decide) (by decide) rfl hO dX0_init_28 ?_
  exact zY.cret rfl hR (hk) had rfl (fun q _ => zu_zd rfl q) rfl rfl hO dX0_init_31

set_option maxRecDepth 100000 in
set_option maxHeartbeats 4000000 in
theorem cn_X0_111 {sh : Nat → zShc} {μ : zMem} (hs0 : zsok 111 sh) {a : Int} (ha : a = 6) : Cn kX0_init 4 112 (zu 111 0 [(3, 0), (3, 0)] sh) [zP 111, zI a] μ 116 (zd 111 sh) 4 44 (fun μ' => ∀ q, q < 111 → μ' q = μ q) := by
  refine Cn.of [some (zP 111), some (zI a)] rfl (Nat.le_of_ble_eq_true rfl) (by decide +kernel) rfl (fun Γ ad sz hO hG hN hR => ?_)
  have had : zag 112 ad ad := zag.rfl'
  have hk : ∀ q, q < 111 → μ q = μ q := fun _ _ => rfl
  refine zY.aload_n hO dX0_init_0 rfl ?_
  refine zY.objI zml_X0_3 (by decide) rfl (Nat.le_of_ble_eq_true rfl) hO dX0_init_1 ?_
  refine zY.aload_n hO dX0_init_4 rfl ?_
  refine zY.new (sh' := (zu 112 5 [(3, 0)] (zu 111 0 [(3, 0), (3, 0)] sh))) (n1 := 113) (c1 := 1) (s1 := 1) zkk_X0_9 hG had (by decide) (by decide) (zsok_zu hs0 (by decide) (by decide +kernel)) zu_eq (fun q h => zu_lt h) (zlwL_some (zlw_P (Or.inl (by decide))) (zlwL_some zlw_I zlwL_nil)) (zlwS_cons (zlw_P (Or.inl (by decide))) zlwS_nil) rfl rfl rfl ⟨by decide, by decide⟩ hO dX0_init_5 (fun ad1 had => ?_)
  refine zY.dup rfl hO dX0_init_8 ?_
  refine zY.iload_n hO dX0_init_9 rfl ?_
  refine zY.bipush hO dX0_init_10 (by decide) ?_
  refine zY.imul hO dX0_init_12 ?_
  refine zY.callI1 (n' := 114) (sh' := (zu 111 0 [(3, 0), (3, 0)] sh)) (c1 := 2) (s1 := 37) (cn_X5 zrw_112 rfl (zsok_zu hs0 (by decide) (by decide +kernel)) (len := 36) (by omega)) (by decide) zcal_X5_init rfl rfl zml_X0_11 (Nat.le_of_ble_eq_true rfl) rfl hG had (by decide) (fun q _ => zd_zu (by decide) q) (zlwL_some (zlw_P (Or.inl (by decide))) (zlwL_some zlw_I zlwL_nil)) (zlwS_cons (zlw_P (Or.inl (by decide))) (zlwS_cons (zlw_P (Or.inl (by decide))) zlwS_nil)) rfl rfl ⟨by decide, by decide⟩ hO dX0_init_13 (fun ad2 μ2 had hq2 => ?_)
  have hk : ∀ q, q < 111 → μ2 q = μ q := fun q h => Eq.trans (b := μ q) (by rw [hq2, zrow_ne (by omega), zrow_ne (by omega)]) (hk q h)
  refine zY.putF (p := 111) (fl := [(3, 0), (3, 0)]) (fl' := [(0, 112), (3, 0)]) zFF_X0_14 hN (by decide) (by decide) rfl hO dX0_init_16 ?_
  refine zY.aload_n hO dX0_init_19 rfl ?_
  refine zY.new (sh' := (zu 114 5 [(3, 0)] (zu 111 0 [(0, 112), (3, 0)] sh))) (n1 := 115) (c1 := 3) (s1 := 38) zkk_X0_9 hG had (by decide) (by decide) (zsok_zu hs0 (by decide) (by decide +kernel)) zu_eq (fun q h => zu_lt h) (zlwL_some (zlw_P (Or.inl (by decide))) (zlwL_some zlw_I zlwL_nil)) (zlwS_cons (zlw_P (Or.inl (by decide))) zlwS_nil) rfl rfl rfl ⟨by decide, by decide⟩ hO dX0_init_20 (fun ad3 had => ?_)
  refine zY.dup rfl hO dX0_init_23 ?_
  refine zY.iload_n hO dX0_init_24 rfl ?_
  refine zY.callI1 (n' := 116) (sh' := (zu 111 0 [(0, 112), (3, 0)] sh)) (c1 := 4) (s1 := 44) (cn_X5 zrw_114 rfl (zsok_zu hs0 (by decide) (by decide +kernel)) (len := 6) (by omega)) (by decide) zcal_X5_init rfl rfl zml_X0_11 (Nat.le_of_ble_eq_true rfl) rfl hG had (by decide) (fun q _ => zd_zu (by decide) q) (zlwL_some (zlw_P (Or.inl (by decide))) (zlwL_some zlw_I zlwL_nil)) (zlwS_cons (zlw_P (Or.inl (by decide))) (zlwS_cons (zlw_P (Or.inl (by decide))) zlwS_nil)) rfl rfl ⟨by decide, by decide⟩ hO dX0_init_25 (fun ad4 μ4 had hq4 => ?_)
  have hk : ∀ q, q < 111 → μ4 q = μ q := fun q h => Eq.trans (b := μ2 q) (by rw [hq4, zrow_ne (by omega), zrow_ne (by omega)]) (hk q h)
  refine zY.putF (p := 111) (fl := [(0, 112), (3, 0)]) (fl' := [(0, 112), (0, 114)]) zFF_X0_20 hN (by decide) (by decide) rfl hO dX0_init_28 ?_
  exact zY.cret rfl hR (hk) had rfl (fun q _ => zu_zd rfl q) rfl rfl hO dX0_init_31

set_option maxRecDepth 100000 in
set_option maxHeartbeats 4000000 in
theorem cn_X7_68 {sh : Nat → zShc} {μ : zMem} (hs0 : zsok 68 sh)  : Cn kX7_init 4 69 (zu 68 7 [(3, 0), (3, 0)] sh) [zP 68] μ 73 (zd 68 sh) 4 14 (fun μ' => ∀ q, q < 68 → μ' q = μ q) := by
  refine Cn.of [some (zP 68)] rfl (Nat.le_of_ble_eq_true rfl) (by decide +kernel) rfl (fun Γ ad sz hO hG hN hR => ?_)
  have had : zag 69 ad ad := zag.rfl'
  have hk : ∀ q, q < 68 → μ q = μ q := fun _ _ => rfl
  refine zY.aload_n hO dX7_init_0 rfl ?_
  refine zY.objI zml_X7_3 (by decide) rfl (Nat.le_of_ble_eq_true rfl) hO dX7_init_1 ?_
  refine zY.aload_n hO dX7_init_4 rfl ?_
  refine zY.new (sh' := (zu 69 5 [(3, 0)] (zu 68 7 [(3, 0), (3, 0)] sh))) (n1 := 70) (c1 := 1) (s1 := 1) zkk_X7_9 hG had (by decide) (by decide) (zsok_zu hs0 (by decide) (by decide +kernel)) zu_eq (fun q h => zu_lt h) (zlwL_some (zlw_P (Or.inl (by decide))) zlwL_nil) (zlwS_cons (zlw_P (Or.inl (by decide))) zlwS_nil) rfl rfl rfl ⟨by decide, by decide⟩ hO dX7_init_5 (fun ad1 had => ?_)
  refine zY.dup rfl hO dX7_init_8 ?_
  refine zY.bipush hO dX7_init_9 (by decide) ?_
  refine zY.callI1 (n' := 71) (sh' := (zu 68 7 [(3, 0), (3, 0)] sh)) (c1 := 2) (s1 := 7) (cn_X5 zrw_69 rfl (zsok_zu hs0 (by decide) (by decide +kernel)) (len := 6) (by omega)) (by decide) zcal_X5_init rfl rfl zml_X7_11 (Nat.le_of_ble_eq_true rfl) rfl hG had (by decide) (fun q _ => zd_zu (by decide) q) (zlwL_some (zlw_P (Or.inl (by decide))) zlwL_nil) (zlwS_cons (zlw_P (Or.inl (by decide))) (zlwS_cons (zlw_P (Or.inl (by decide))) zlwS_nil)) rfl rfl ⟨by decide, by decide⟩ hO dX7_init_11 (fun ad2 μ2 had hq2 => ?_)
  have hk : ∀ q, q < 68 → μ2 q = μ q := fun q h => Eq.trans (b := μ q) (by rw [hq2, zrow_ne (by omega), zrow_ne (by omega)]) (hk q h)
  refine zY.putF (p := 68) (fl := [(3, 0), (3, 0)]) (fl' := [(0, 69), (3, 0)]) zFF_X7_14 hN (by decide) (by decide) rfl hO dX7_init_14 ?_
  refine zY.aload_n hO dX7_init_17 rfl ?_
  refine zY.new (sh' := (zu 71 5 [(3, 0)] (zu 68 7 [(0, 69), (3, 0)] sh))) (n1 := 72) (c1 := 3) (s1 := 8) zkk_X7_9 hG had (by decide) (by decide) (zsok_zu hs0 (by decide) (by decide +kernel)) zu_eq (fun q h => zu_lt h) (zlwL_some (zlw_P (Or.inl (by decide))) zlwL_nil) (zlwS_cons (zlw_P (Or.inl (by decide))) zlwS_nil) rfl rfl rfl ⟨by decide, by decide⟩ hO dX7_init_18 (fun ad3 had => ?_)
  refine zY.dup rfl hO dX7_init_21 ?_
  refine zY.bipush hO dX7_init_22 (by decide) ?_
  refine zY.callI1 (n' := 73) (sh' := (zu 68 7 [(0, 69), (3, 0)] sh)) (c1 := 4) (s1 := 14) (cn_X5 zrw_71 rfl (zsok_zu hs0 (by decide) (by decide +kernel)) (len := 6) (by omega)) (by decide) zcal_X5_init rfl rfl zml_X7_11 (Nat.le_of_ble_eq_true rfl) rfl hG had (by decide) (fun q _ => zd_zu (by decide) q) (zlwL_some (zlw_P (Or.inl (by decide))) zlwL_nil) (zlwS_cons (zlw_P (Or.inl (by decide))) (zlwS_cons (zlw_P (Or.inl (by decide))) zlwS_nil)) rfl rfl ⟨by decide, by decide⟩ hO dX7_init_24 (fun ad4 μ4 had hq4 => ?_)
  have hk : ∀ q, q < 68 → μ4 q = μ q := fun q h => Eq.trans (b := μ2 q) (by rw [hq4, zrow_ne (by omega), zrow_ne (by omega)]) (hk q h)
  refine zY.putF (p := 68) (fl := [(0, 69), (3, 0)]) (fl' := [(0, 69), (0, 71)]) zFF_X7_20 hN (by decide) (by decide) rfl hO dX7_init_27 ?_
  exact zY.cret rfl hR (hk) had rfl (fun q _ => zu_zd rfl q) rfl rfl hO dX7_init_30

set_option maxRecDepth 100000 in
set_option maxHeartbeats 4000000 in
theorem cn_X7_83 {sh : Nat → zShc} {μ : zMem} (hs0 : zsok 83 sh)  : Cn kX7_init 4 84 (zu 83 7 [(3, 0), (3, 0)] sh) [zP 83] μ 88 (zd 83 sh) 4 14 (fun μ' => ∀ q, q < 83 → μ' q = μ q) := by
  refine Cn.of [some (zP 83)] rfl (Nat.le_of_ble_eq_true rfl) (by decide +kernel) rfl (fun Γ ad sz hO hG hN hR => ?_)
  have had : zag 84 ad ad := zag.rfl'
  have hk : ∀ q, q < 83 → μ q = μ q := fun _ _ => rfl
  refine zY.aload_n hO dX7_init_0 rfl ?_
  refine zY.objI zml_X7_3 (by decide) rfl (Nat.le_of_ble_eq_true rfl) hO dX7_init_1 ?_
  refine zY.aload_n hO dX7_init_4 rfl ?_
  refine zY.new (sh' := (zu 84 5 [(3, 0)] (zu 83 7 [(3, 0), (3, 0)] sh))) (n1 := 85) (c1 := 1) (s1 := 1) zkk_X7_9 hG had (by decide) (by decide) (zsok_zu hs0 (by decide) (by decide +kernel)) zu_eq (fun q h => zu_lt h) (zlwL_some (zlw_P (Or.inl (by decide))) zlwL_nil) (zlwS_cons (zlw_P (Or.inl (by decide))) zlwS_nil) rfl rfl rfl ⟨by decide, by decide⟩ hO dX7_init_5 (fun ad1 had => ?_)
  refine zY.dup rfl hO dX7_init_8 ?_
  refine zY.bipush hO dX7_init_9 (by decide) ?_
  refine zY.callI1 (n' := 86) (sh' := (zu 83 7 [(3, 0), (3, 0)] sh)) (c1 := 2) (s1 := 7) (cn_X5 zrw_84 rfl (zsok_zu hs0 (by decide) (by decide +kernel)) (len := 6) (by omega)) (by decide) zcal_X5_init rfl rfl zml_X7_11 (Nat.le_of_ble_eq_true rfl) rfl hG had (by decide) (fun q _ => zd_zu (by decide) q) (zlwL_some (zlw_P (Or.inl (by decide))) zlwL_nil) (zlwS_cons (zlw_P (Or.inl (by decide))) (zlwS_cons (zlw_P (Or.inl (by decide))) zlwS_nil)) rfl rfl ⟨by decide, by decide⟩ hO dX7_init_11 (fun ad2 μ2 had hq2 => ?_)
  have hk : ∀ q, q < 83 → μ2 q = μ q := fun q h => Eq.trans (b := μ q) (by rw [hq2, zrow_ne (by omega), zrow_ne (by omega)]) (hk q h)
  refine zY.putF (p := 83) (fl := [(3, 0), (3, 0)]) (fl' := [(0, 84), (3, 0)]) zFF_X7_14 hN (by decide) (by decide) rfl hO dX7_init_14 ?_
  refine zY.aload_n hO dX7_init_17 rfl ?_
  refine zY.new (sh' := (zu 86 5 [(3, 0)] (zu 83 7 [(0, 84), (3, 0)] sh))) (n1 := 87) (c1 := 3) (s1 := 8) zkk_X7_9 hG had (by decide) (by decide) (zsok_zu hs0 (by decide) (by decide +kernel)) zu_eq (fun q h => zu_lt h) (zlwL_some (zlw_P (Or.inl (by decide))) zlwL_nil) (zlwS_cons (zlw_P (Or.inl (by decide))) zlwS_nil) rfl rfl rfl ⟨by decide, by decide⟩ hO dX7_init_18 (fun ad3 had => ?_)
  refine zY.dup rfl hO dX7_init_21 ?_
  refine zY.bipush hO dX7_init_22 (by decide) ?_
  refine zY.callI1 (n' := 88) (sh' := (zu 83 7 [(0, 84), (3, 0)] sh)) (c1 := 4) (s1 := 14) (cn_X5 zrw_86 rfl (zsok_zu hs0 (by decide) (by decide +kernel)) (len := 6) (by omega)) (by decide) zcal_X5_init rfl rfl zml_X7_11 (Nat.le_of_ble_eq_true rfl) rfl hG had (by decide) (fun q _ => zd_zu (by decide) q) (zlwL_some (zlw_P (Or.inl (by decide))) zlwL_nil) (zlwS_cons (zlw_P (Or.inl (by decide))) (zlwS_cons (zlw_P (Or.inl (by decide))) zlwS_nil)) rfl rfl ⟨by decide, by decide⟩ hO dX7_init_24 (fun ad4 μ4 had hq4 => ?_)
  have hk : ∀ q, q < 83 → μ4 q = μ q := fun q h => Eq.trans (b := μ2 q) (by rw [hq4, zrow_ne (by omega), zrow_ne (by omega)]) (hk q h)
  refine zY.putF (p := 83) (fl := [(0, 84), (3, 0)]) (fl' := [(0, 84), (0, 86)]) zFF_X7_20 hN (by decide) (by decide) rfl hO dX7_init_27 ?_
  exact zY.cret rfl hR (hk) had rfl (fun q _ => zu_zd rfl q) rfl rfl hO dX7_init_30

set_option maxRecDepth 100000 in
set_option maxHeartbeats 4000000 in
theorem cn_X7_102 {sh : Nat → zShc} {μ : zMem} (hs0 : zsok 102 sh)  : Cn kX7_init 4 103 (zu 102 7 [(3, 0), (3, 0)] sh) [zP 102] μ 107 (zd 102 sh) 4 14 (fun μ' => ∀ q, q < 102 → μ' q = μ q) := by
  refine Cn.of [some (zP 102)] rfl (Nat.le_of_ble_eq_true rfl) (by decide +kernel) rfl (fun Γ ad sz hO hG hN hR => ?_)
  have had : zag 103 ad ad := zag.rfl'
  have hk : ∀ q, q < 102 → μ q = μ q := fun _ _ => rfl
  refine zY.aload_n hO dX7_init_0 rfl ?_
  refine zY.objI zml_X7_3 (by decide) rfl (Nat.le_of_ble_eq_true rfl) hO dX7_init_1 ?_
  refine zY.aload_n hO dX7_init_4 rfl ?_
  refine zY.new (sh' := (zu 103 5 [(3, 0)] (zu 102 7 [(3, 0), (3, 0)] sh))) (n1 := 104) (c1 := 1) (s1 := 1) zkk_X7_9 hG had (by decide) (by decide) (zsok_zu hs0 (by decide) (by decide +kernel)) zu_eq (fun q h => zu_lt h) (zlwL_some (zlw_P (Or.inl (by decide))) zlwL_nil) (zlwS_cons (zlw_P (Or.inl (by decide))) zlwS_nil) rfl rfl rfl ⟨by decide, by decide⟩ hO dX7_init_5 (fun ad1 had => ?_)
  refine zY.dup rfl hO dX7_init_8 ?_
  refine zY.bipush hO dX7_init_9 (by decide) ?_
  refine zY.callI1 (n' := 105) (sh' := (zu 102 7 [(3, 0), (3, 0)] sh)) (c1 := 2) (s1 := 7) (cn_X5 zrw_103 rfl (zsok_zu hs0 (by decide) (by decide +kernel)) (len := 6) (by omega)) (by decide) zcal_X5_init rfl rfl zml_X7_11 (Nat.le_of_ble_eq_true rfl) rfl hG had (by decide) (fun q _ => zd_zu (by decide) q) (zlwL_some (zlw_P (Or.inl (by decide))) zlwL_nil) (zlwS_cons (zlw_P (Or.inl (by decide))) (zlwS_cons (zlw_P (Or.inl (by decide))) zlwS_nil)) rfl rfl ⟨by decide, by decide⟩ hO dX7_init_11 (fun ad2 μ2 had hq2 => ?_)
  have hk : ∀ q, q < 102 → μ2 q = μ q := fun q h => Eq.trans (b := μ q) (by rw [hq2, zrow_ne (by omega), zrow_ne (by omega)]) (hk q h)
  refine zY.putF (p := 102) (fl := [(3, 0), (3, 0)]) (fl' := [(0, 103), (3, 0)]) zFF_X7_14 hN (by decide) (by decide) rfl hO dX7_init_14 ?_
  refine zY.aload_n hO dX7_init_17 rfl ?_
  refine zY.new (sh' := (zu 105 5 [(3, 0)] (zu 102 7 [(0, 103), (3, 0)] sh))) (n1 := 106) (c1 := 3) (s1 := 8) zkk_X7_9 hG had (by decide) (by decide) (zsok_zu hs0 (by decide) (by decide +kernel)) zu_eq (fun q h => zu_lt h) (zlwL_some (zlw_P (Or.inl (by decide))) zlwL_nil) (zlwS_cons (zlw_P (Or.inl (by decide))) zlwS_nil) rfl rfl rfl ⟨by decide, by decide⟩ hO dX7_init_18 (fun ad3 had => ?_)
  refine zY.dup rfl hO dX7_init_21 ?_
  refine zY.bipush hO dX7_init_22 (by decide) ?_
  refine zY.callI1 (n' := 107) (sh' := (zu 102 7 [(0, 103), (3, 0)] sh)) (c1 := 4) (s1 := 14) (cn_X5 zrw_105 rfl (zsok_zu hs0 (by decide) (by decide +kernel)) (len := 6) (by omega)) (by decide) zcal_X5_init rfl rfl zml_X7_11 (Nat.le_of_ble_eq_true rfl) rfl hG had (by decide) (fun q _ => zd_zu (by decide) q) (zlwL_some (zlw_P (Or.inl (by decide))) zlwL_nil) (zlwS_cons (zlw_P (Or.inl (by decide))) (zlwS_cons (zlw_P (Or.inl (by decide))) zlwS_nil)) rfl rfl ⟨by decide, by decide⟩ hO dX7_init_24 (fun ad4 μ4 had hq4 => ?_)
  have hk : ∀ q, q < 102 → μ4 q = μ q := fun q h => Eq.trans (b := μ2 q) (by rw [hq4, zrow_ne (by omega), zrow_ne (by omega)]) (hk q h)
  refine zY.putF (p := 102) (fl := [(0, 103), (3, 0)]) (fl' := [(0, 103), (0, 105)]) zFF_X7_20 hN (by decide) (by decide) rfl hO dX7_init_27 ?_
  exact zY.cret rfl hR (hk) had rfl (fun q _ => zu_zd rfl q) rfl rfl hO dX7_init_30

set_option maxRecDepth 100000 in
set_option maxHeartbeats 4000000 in
theorem cn_X7_116 {sh : Nat → zShc} {μ : zMem} (hs0 : zsok 116 sh)  : Cn kX7_init 4 117 (zu 116 7 [(3, 0), (3, 0)] sh) [zP 116] μ 121 (zd 116 sh) 4 14 (fun μ' => ∀ q, q < 116 → μ' q = μ q) := by
  refine Cn.of [some (zP 116)] rfl (Nat.le_of_ble_eq_true rfl) (by decide +kernel) rfl (fun Γ ad sz hO hG hN hR => ?_)
  have had : zag 117 ad ad := zag.rfl'
  have hk : ∀ q, q < 116 → μ q = μ q := fun _ _ => rfl
  refine zY.aload_n hO dX7_init_0 rfl ?_
  refine zY.objI zml_X7_3 (by decide) rfl (Nat.le_of_ble_eq_true rfl) hO dX7_init_1 ?_
  refine zY.aload_n hO dX7_init_4 rfl ?_
  refine zY.new (sh' := (zu 117 5 [(3, 0)] (zu 116 7 [(3, 0), (3, 0)] sh))) (n1 := 118) (c1 := 1) (s1 := 1) zkk_X7_9 hG had (by decide) (by decide) (zsok_zu hs0 (by decide) (by decide +kernel)) zu_eq (fun q h => zu_lt h) (zlwL_some (zlw_P (Or.inl (by decide))) zlwL_nil) (zlwS_cons (zlw_P (Or.inl (by decide))) zlwS_nil) rfl rfl rfl ⟨by decide, by decide⟩ hO dX7_init_5 (fun ad1 had => ?_)
  refine zY.dup rfl hO dX7_init_8 ?_
  refine zY.bipush hO dX7_init_9 (by decide) ?_
  refine zY.callI1 (n' := 119) (sh' := (zu 116 7 [(3, 0), (3, 0)] sh)) (c1 := 2) (s1 := 7) (cn_X5 zrw_117 rfl (zsok_zu hs0 (by decide) (by decide +kernel)) (len := 6) (by omega)) (by decide) zcal_X5_init rfl rfl zml_X7_11 (Nat.le_of_ble_eq_true rfl) rfl hG had (by decide) (fun q _ => zd_zu (by decide) q) (zlwL_some (zlw_P (Or.inl (by decide))) zlwL_nil) (zlwS_cons (zlw_P (Or.inl (by decide))) (zlwS_cons (zlw_P (Or.inl (by decide))) zlwS_nil)) rfl rfl ⟨by decide, by decide⟩ hO dX7_init_11 (fun ad2 μ2 had hq2 => ?_)
  have hk : ∀ q, q < 116 → μ2 q = μ q := fun q h => Eq.trans (b := μ q) (by rw [hq2, zrow_ne (by omega), zrow_ne (by omega)]) (hk q h)
  refine zY.putF (p := 116) (fl := [(3, 0), (3, 0)]) (fl' := [(0, 117), (3, 0)]) zFF_X7_14 hN (by decide) (by decide) rfl hO dX7_init_14 ?_
  refine zY.aload_n hO dX7_init_17 rfl ?_
  refine zY.new (sh' := (zu 119 5 [(3, 0)] (zu 116 7 [(0, 117), (3, 0)] sh))) (n1 := 120) (c1 := 3) (s1 := 8) zkk_X7_9 hG had (by decide) (by decide) (zsok_zu hs0 (by decide) (by decide +kernel)) zu_eq (fun q h => zu_lt h) (zlwL_some (zlw_P (Or.inl (by decide))) zlwL_nil) (zlwS_cons (zlw_P (Or.inl (by decide))) zlwS_nil) rfl rfl rfl ⟨by decide, by decide⟩ hO dX7_init_18 (fun ad3 had => ?_)
  refine zY.dup rfl hO dX7_init_21 ?_
  refine zY.bipush hO dX7_init_22 (by decide) ?_
  refine zY.callI1 (n' := 121) (sh' := (zu 116 7 [(0, 117), (3, 0)] sh)) (c1 := 4) (s1 := 14) (cn_X5 zrw_119 rfl (zsok_zu hs0 (by decide) (by decide +kernel)) (len := 6) (by omega)) (by decide) zcal_X5_init rfl rfl zml_X7_11 (Nat.le_of_ble_eq_true rfl) rfl hG had (by decide) (fun q _ => zd_zu (by decide) q) (zlwL_some (zlw_P (Or.inl (by decide))) zlwL_nil) (zlwS_cons (zlw_P (Or.inl (by decide))) (zlwS_cons (zlw_P (Or.inl (by decide))) zlwS_nil)) rfl rfl ⟨by decide, by decide⟩ hO dX7_init_24 (fun ad4 μ4 had hq4 => ?_)
  have hk : ∀ q, q < 116 → μ4 q = μ q := fun q h => Eq.trans (b := μ2 q) (by rw [hq4, zrow_ne (by omega), zrow_ne (by omega)]) (hk q h)
  refine zY.putF (p := 116) (fl := [(0, 117), (3, 0)]) (fl' := [(0, 117), (0, 119)]) zFF_X7_20 hN (by decide) (by decide) rfl hO dX7_init_27 ?_
  exact zY.cret rfl hR (hk) had rfl (fun q _ => zu_zd rfl q) rfl rfl hO dX7_init_30

/-- what a new object's book says -/
def zD0 : zBk := fun t k => if t = 1 then 1 else if t = 2 then -6 else if t = 5 then 9 else if t = 6 then 2 else if t = 7 then -6 else if t = 8 ∧ k = 0 then 5 else 0
theorem zD0_WF : zWF zD0 := by
  refine ⟨fun w _ => ?_, fun s _ => ?_, ?_⟩
  · simp [zD0]
  · simp [zD0]
  · simp [zD0]

set_option maxRecDepth 100000 in
set_option maxHeartbeats 4000000 in
theorem cn_X6_1 {sh : Nat → zShc} {μ : zMem} (hs0 : zsok 1 sh)  : Cn kX6_init 6 2 (zu 1 6 [(3, 0), (3, 0), (3, 0), (3, 0), (3, 0), (3, 0), (3, 0), (3, 0)] sh) [zP 1] μ 18 (zd 1 sh) 16 148 (fun μ' => zShp 1 zD0 μ' ∧ ∀ q, q < 1 → μ' q = μ q) := by
  refine Cn.of [some (zP 1)] rfl (Nat.le_of_ble_eq_true rfl) (by decide +kernel) rfl (fun Γ ad sz hO hG hN hR => ?_)
  have had : zag 2 ad ad := zag.rfl'
  refine zY.aload_n hO dX6_init_0 rfl ?_
  refine zY.objI zml_X6_3 (by decide) rfl (Nat.le_of_ble_eq_true rfl) hO dX6_init_1 ?_
  refine zY.aload_n hO dX6_init_4 rfl ?_
  refine zY.new (sh' := (zu 2 5 [(3, 0)] (zu 1 6 [(3, 0), (3, 0), (3, 0), (3, 0), (3, 0), (3, 0), (3, 0), (3, 0)] sh))) (n1 := 3) (c1 := 1) (s1 := 1) zkk_X6_9 hG had (by decide) (by decide) (zsok_zu hs0 (by decide) (by decide +kernel)) zu_eq (fun q h => zu_lt h) (zlwL_some (zlw_P (Or.inl (by decide))) zlwL_nil) (zlwS_cons (zlw_P (Or.inl (by decide))) zlwS_nil) rfl rfl rfl ⟨by decide, by decide⟩ hO dX6_init_5 (fun ad1 had => ?_)
  refine zY.dup rfl hO dX6_init_8 ?_
  refine zY.bipush hO dX6_init_9 (by decide) ?_
  refine zY.callI1 (n' := 4) (sh' := (zu 1 6 [(3, 0), (3, 0), (3, 0), (3, 0), (3, 0), (3, 0), (3, 0), (3, 0)] sh)) (c1 := 2) (s1 := 17) (cn_X5 zrw_2 rfl (zsok_zu hs0 (by decide) (by decide +kernel)) (len := 16) (by omega)) (by decide) zcal_X5_init rfl rfl zml_X6_11 (Nat.le_of_ble_eq_true rfl) rfl hG had (by decide) (fun q _ => zd_zu (by decide) q) (zlwL_some (zlw_P (Or.inl (by decide))) zlwL_nil) (zlwS_cons (zlw_P (Or.inl (by decide))) (zlwS_cons (zlw_P (Or.inl (by decide))) zlwS_nil)) rfl rfl ⟨by decide, by decide⟩ hO dX6_init_11 (fun ad2 μ2 had hq2 => ?_)
  subst hq2
  refine zY.putF (p := 1) (fl := [(3, 0), (3, 0), (3, 0), (3, 0), (3, 0), (3, 0), (3, 0), (3, 0)]) (fl' := [(0, 2), (3, 0), (3, 0), (3, 0), (3, 0), (3, 0), (3, 0), (3, 0)]) zFF_X6_14 hN (by decide) (by decide) rfl hO dX6_init_14 ?_
  refine zY.aload_n hO dX6_init_17 rfl ?_
  refine zY.new (sh' := (zu 4 5 [(3, 0)] (zu 1 6 [(0, 2), (3, 0), (3, 0), (3, 0), (3, 0), (3, 0), (3, 0), (3, 0)] sh))) (n1 := 5) (c1 := 3) (s1 := 18) zkk_X6_9 hG had (by decide) (by decide) (zsok_zu hs0 (by decide) (by decide +kernel)) zu_eq (fun q h => zu_lt h) (zlwL_some (zlw_P (Or.inl (by decide))) zlwL_nil) (zlwS_cons (zlw_P (Or.inl (by decide))) zlwS_nil) rfl rfl rfl ⟨by decide, by decide⟩ hO dX6_init_18 (fun ad3 had => ?_)
  refine zY.dup rfl hO dX6_init_21 ?_
  refine zY.bipush hO dX6_init_22 (by decide) ?_
  refine zY.callI1 (n' := 6) (sh' := (zu 1 6 [(0, 2), (3, 0), (3, 0), (3, 0), (3, 0), (3, 0), (3, 0), (3, 0)] sh)) (c1 := 4) (s1 := 24) (cn_X5 zrw_4 rfl (zsok_zu hs0 (by decide) (by decide +kernel)) (len := 6) (by omega)) (by decide) zcal_X5_init rfl rfl zml_X6_11 (Nat.le_of_ble_eq_true rfl) rfl hG had (by decide) (fun q _ => zd_zu (by decide) q) (zlwL_some (zlw_P (Or.inl (by decide))) zlwL_nil) (zlwS_cons (zlw_P (Or.inl (by decide))) (zlwS_cons (zlw_P (Or.inl (by decide))) zlwS_nil)) rfl rfl ⟨by decide, by decide⟩ hO dX6_init_24 (fun ad4 μ4 had hq4 => ?_)
  subst hq4
  refine zY.putF (p := 1) (fl := [(0, 2), (3, 0), (3, 0), (3, 0), (3, 0), (3, 0), (3, 0), (3, 0)]) (fl' := [(0, 2), (0, 4), (3, 0), (3, 0), (3, 0), (3, 0), (3, 0), (3, 0)]) zFF_X6_20 hN (by decide) (by decide) rfl hO dX6_init_27 ?_
  refine zY.aload_n hO dX6_init_30 rfl ?_
  refine zY.new (sh' := (zu 6 5 [(3, 0)] (zu 1 6 [(0, 2), (0, 4), (3, 0), (3, 0), (3, 0), (3, 0), (3, 0), (3, 0)] sh))) (n1 := 7) (c1 := 5) (s1 := 25) zkk_X6_9 hG had (by decide) (by decide) (zsok_zu hs0 (by decide) (by decide +kernel)) zu_eq (fun q h => zu_lt h) (zlwL_some (zlw_P (Or.inl (by decide))) zlwL_nil) (zlwS_cons (zlw_P (Or.inl (by decide))) zlwS_nil) rfl rfl rfl ⟨by decide, by decide⟩ hO dX6_init_31 (fun ad5 had => ?_)
  refine zY.dup rfl hO dX6_init_34 ?_
  refine zY.bipush hO dX6_init_35 (by decide) ?_
  refine zY.callI1 (n' := 8) (sh' := (zu 1 6 [(0, 2), (0, 4), (3, 0), (3, 0), (3, 0), (3, 0), (3, 0), (3, 0)] sh)) (c1 := 6) (s1 := 75) (cn_X5 zrw_6 rfl (zsok_zu hs0 (by decide) (by decide +kernel)) (len := 50) (by omega)) (by decide) zcal_X5_init rfl rfl zml_X6_11 (Nat.le_of_ble_eq_true rfl) rfl hG had (by decide) (fun q _ => zd_zu (by decide) q) (zlwL_some (zlw_P (Or.inl (by decide))) zlwL_nil) (zlwS_cons (zlw_P (Or.inl (by decide))) (zlwS_cons (zlw_P (Or.inl (by decide))) zlwS_nil)) rfl rfl ⟨by decide, by decide⟩ hO dX6_init_37 (fun ad6 μ6 had hq6 => ?_)
  subst hq6
  refine zY.putF (p := 1) (fl := [(0, 2), (0, 4), (3, 0), (3, 0), (3, 0), (3, 0), (3, 0), (3, 0)]) (fl' := [(0, 2), (0, 4), (0, 6), (3, 0), (3, 0), (3, 0), (3, 0), (3, 0)]) zFF_X6_23 hN (by decide) (by decide) rfl hO dX6_init_40 ?_
  refine zY.aload_n hO dX6_init_43 rfl ?_
  refine zY.new (sh' := (zu 8 5 [(3, 0)] (zu 1 6 [(0, 2), (0, 4), (0, 6), (3, 0), (3, 0), (3, 0), (3, 0), (3, 0)] sh))) (n1 := 9) (c1 := 7) (s1 := 76) zkk_X6_9 hG had (by decide) (by decide) (zsok_zu hs0 (by decide) (by decide +kernel)) zu_eq (fun q h => zu_lt h) (zlwL_some (zlw_P (Or.inl (by decide))) zlwL_nil) (zlwS_cons (zlw_P (Or.inl (by decide))) zlwS_nil) rfl rfl rfl ⟨by decide, by decide⟩ hO dX6_init_44 (fun ad7 had => ?_)
  refine zY.dup rfl hO dX6_init_47 ?_
  refine zY.bipush hO dX6_init_48 (by decide) ?_
  refine zY.callI1 (n' := 10) (sh' := (zu 1 6 [(0, 2), (0, 4), (0, 6), (3, 0), (3, 0), (3, 0), (3, 0), (3, 0)] sh)) (c1 := 8) (s1 := 86) (cn_X5 zrw_8 rfl (zsok_zu hs0 (by decide) (by decide +kernel)) (len := 10) (by omega)) (by decide) zcal_X5_init rfl rfl zml_X6_11 (Nat.le_of_ble_eq_true rfl) rfl hG had (by decide) (fun q _ => zd_zu (by decide) q) (zlwL_some (zlw_P (Or.inl (by decide))) zlwL_nil) (zlwS_cons (zlw_P (Or.inl (by decide))) (zlwS_cons (zlw_P (Or.inl (by decide))) zlwS_nil)) rfl rfl ⟨by decide, by decide⟩ hO dX6_init_50 (fun ad8 μ8 had hq8 => ?_)
  subst hq8
  refine zY.putF (p := 1) (fl := [(0, 2), (0, 4), (0, 6), (3, 0), (3, 0), (3, 0), (3, 0), (3, 0)]) (fl' := [(0, 2), (0, 4), (0, 6), (0, 8), (3, 0), (3, 0), (3, 0), (3, 0)]) zFF_X6_26 hN (by decide) (by decide) rfl hO dX6_init_53 ?_
  refine zY.aload_n hO dX6_init_56 rfl ?_
  refine zY.new (sh' := (zu 10 5 [(3, 0)] (zu 1 6 [(0, 2), (0, 4), (0, 6), (0, 8), (3, 0), (3, 0), (3, 0), (3, 0)] sh))) (n1 := 11) (c1 := 9) (s1 := 87) zkk_X6_9 hG had (by decide) (by decide) (zsok_zu hs0 (by decide) (by decide +kernel)) zu_eq (fun q h => zu_lt h) (zlwL_some (zlw_P (Or.inl (by decide))) zlwL_nil) (zlwS_cons (zlw_P (Or.inl (by decide))) zlwS_nil) rfl rfl rfl ⟨by decide, by decide⟩ hO dX6_init_57 (fun ad9 had => ?_)
  refine zY.dup rfl hO dX6_init_60 ?_
  refine zY.bipush hO dX6_init_61 (by decide) ?_
  refine zY.callI1 (n' := 12) (sh' := (zu 1 6 [(0, 2), (0, 4), (0, 6), (0, 8), (3, 0), (3, 0), (3, 0), (3, 0)] sh)) (c1 := 10) (s1 := 97) (cn_X5 zrw_10 rfl (zsok_zu hs0 (by decide) (by decide +kernel)) (len := 10) (by omega)) (by decide) zcal_X5_init rfl rfl zml_X6_11 (Nat.le_of_ble_eq_true rfl) rfl hG had (by decide) (fun q _ => zd_zu (by decide) q) (zlwL_some (zlw_P (Or.inl (by decide))) zlwL_nil) (zlwS_cons (zlw_P (Or.inl (by decide))) (zlwS_cons (zlw_P (Or.inl (by decide))) zlwS_nil)) rfl rfl ⟨by decide, by decide⟩ hO dX6_init_63 (fun ad10 μ10 had hq10 => ?_)
  subst hq10
  refine zY.putF (p := 1) (fl := [(0, 2), (0, 4), (0, 6), (0, 8), (3, 0), (3, 0), (3, 0), (3, 0)]) (fl' := [(0, 2), (0, 4), (0, 6), (0, 8), (0, 10), (3, 0), (3, 0), (3, 0)]) zFF_X6_29 hN (by decide) (by decide) rfl hO dX6_init_66 ?_
  refine zY.aload_n hO dX6_init_69 rfl ?_
  refine zY.new (sh' := (zu 12 5 [(3, 0)] (zu 1 6 [(0, 2), (0, 4), (0, 6), (0, 8), (0, 10), (3, 0), (3, 0), (3, 0)] sh))) (n1 := 13) (c1 := 11) (s1 := 98) zkk_X6_9 hG had (by decide) (by decide) (zsok_zu hs0 (by decide) (by decide +kernel)) zu_eq (fun q h => zu_lt h) (zlwL_some (zlw_P (Or.inl (by decide))) zlwL_nil) (zlwS_cons (zlw_P (Or.inl (by decide))) zlwS_nil) rfl rfl rfl ⟨by decide, by decide⟩ hO dX6_init_70 (fun ad11 had => ?_)
  refine zY.dup rfl hO dX6_init_73 ?_
  refine zY.bipush hO dX6_init_74 (by decide) ?_
  refine zY.callI1 (n' := 14) (sh' := (zu 1 6 [(0, 2), (0, 4), (0, 6), (0, 8), (0, 10), (3, 0), (3, 0), (3, 0)] sh)) (c1 := 12) (s1 := 134) (cn_X5 zrw_12 rfl (zsok_zu hs0 (by decide) (by decide +kernel)) (len := 36) (by omega)) (by decide) zcal_X5_init rfl rfl zml_X6_11 (Nat.le_of_ble_eq_true rfl) rfl hG had (by decide) (fun q _ => zd_zu (by decide) q) (zlwL_some (zlw_P (Or.inl (by decide))) zlwL_nil) (zlwS_cons (zlw_P (Or.inl (by decide))) (zlwS_cons (zlw_P (Or.inl (by decide))) zlwS_nil)) rfl rfl ⟨by decide, by decide⟩ hO dX6_init_76 (fun ad12 μ12 had hq12 => ?_)
  subst hq12
  refine zY.putF (p := 1) (fl := [(0, 2), (0, 4), (0, 6), (0, 8), (0, 10), (3, 0), (3, 0), (3, 0)]) (fl' := [(0, 2), (0, 4), (0, 6), (0, 8), (0, 10), (0, 12), (3, 0), (3, 0)]) zFF_X6_32 hN (by decide) (by decide) rfl hO dX6_init_79 ?_
  refine zY.aload_n hO dX6_init_82 rfl ?_
  refine zY.new (sh' := (zu 14 5 [(3, 0)] (zu 1 6 [(0, 2), (0, 4), (0, 6), (0, 8), (0, 10), (0, 12), (3, 0), (3, 0)] sh))) (n1 := 15) (c1 := 13) (s1 := 135) zkk_X6_9 hG had (by decide) (by decide) (zsok_zu hs0 (by decide) (by decide +kernel)) zu_eq (fun q h => zu_lt h) (zlwL_some (zlw_P (Or.inl (by decide))) zlwL_nil) (zlwS_cons (zlw_P (Or.inl (by decide))) zlwS_nil) rfl rfl rfl ⟨by decide, by decide⟩ hO dX6_init_83 (fun ad13 had => ?_)
  refine zY.dup rfl hO dX6_init_86 ?_
  refine zY.bipush hO dX6_init_87 (by decide) ?_
  refine zY.callI1 (n' := 16) (sh' := (zu 1 6 [(0, 2), (0, 4), (0, 6), (0, 8), (0, 10), (0, 12), (3, 0), (3, 0)] sh)) (c1 := 14) (s1 := 141) (cn_X5 zrw_14 rfl (zsok_zu hs0 (by decide) (by decide +kernel)) (len := 6) (by omega)) (by decide) zcal_X5_init rfl rfl zml_X6_11 (Nat.le_of_ble_eq_true rfl) rfl hG had (by decide) (fun q _ => zd_zu (by decide) q) (zlwL_some (zlw_P (Or.inl (by decide))) zlwL_nil) (zlwS_cons (zlw_P (Or.inl (by decide))) (zlwS_cons (zlw_P (Or.inl (by decide))) zlwS_nil)) rfl rfl ⟨by decide, by decide⟩ hO dX6_init_89 (fun ad14 μ14 had hq14 => ?_)
  subst hq14
  refine zY.putF (p := 1) (fl := [(0, 2), (0, 4), (0, 6), (0, 8), (0, 10), (0, 12), (3, 0), (3, 0)]) (fl' := [(0, 2), (0, 4), (0, 6), (0, 8), (0, 10), (0, 12), (0, 14), (3, 0)]) zFF_X6_35 hN (by decide) (by decide) rfl hO dX6_init_92 ?_
  refine zY.aload_n hO dX6_init_95 rfl ?_
  refine zY.new (sh' := (zu 16 5 [(3, 0)] (zu 1 6 [(0, 2), (0, 4), (0, 6), (0, 8), (0, 10), (0, 12), (0, 14), (3, 0)] sh))) (n1 := 17) (c1 := 15) (s1 := 142) zkk_X6_9 hG had (by decide) (by decide) (zsok_zu hs0 (by decide) (by decide +kernel)) zu_eq (fun q h => zu_lt h) (zlwL_some (zlw_P (Or.inl (by decide))) zlwL_nil) (zlwS_cons (zlw_P (Or.inl (by decide))) zlwS_nil) rfl rfl rfl ⟨by decide, by decide⟩ hO dX6_init_96 (fun ad15 had => ?_)
  refine zY.dup rfl hO dX6_init_99 ?_
  refine zY.bipush hO dX6_init_100 (by decide) ?_
  refine zY.callI1 (n' := 18) (sh' := (zu 1 6 [(0, 2), (0, 4), (0, 6), (0, 8), (0, 10), (0, 12), (0, 14), (3, 0)] sh)) (c1 := 16) (s1 := 148) (cn_X5 zrw_16 rfl (zsok_zu hs0 (by decide) (by decide +kernel)) (len := 6) (by omega)) (by decide) zcal_X5_init rfl rfl zml_X6_11 (Nat.le_of_ble_eq_true rfl) rfl hG had (by decide) (fun q _ => zd_zu (by decide) q) (zlwL_some (zlw_P (Or.inl (by decide))) zlwL_nil) (zlwS_cons (zlw_P (Or.inl (by decide))) (zlwS_cons (zlw_P (Or.inl (by decide))) zlwS_nil)) rfl rfl ⟨by decide, by decide⟩ hO dX6_init_102 (fun ad16 μ16 had hq16 => ?_)
  subst hq16
  refine zY.putF (p := 1) (fl := [(0, 2), (0, 4), (0, 6), (0, 8), (0, 10), (0, 12), (0, 14), (3, 0)]) (fl' := [(0, 2), (0, 4), (0, 6), (0, 8), (0, 10), (0, 12), (0, 14), (0, 16)]) zFF_X6_38 hN (by decide) (by decide) rfl hO dX6_init_105 ?_
  refine zY.aload_n hO dX6_init_108 rfl ?_
  refine zY.getR zfl_X6_14 (by decide : 1 < 18) (zu_eq : (zu 1 6 [(0, 2), (0, 4), (0, 6), (0, 8), (0, 10), (0, 12), (0, 14), (0, 16)] sh) 1 = (0, 6, [(0, 2), (0, 4), (0, 6), (0, 8), (0, 10), (0, 12), (0, 14), (0, 16)])) rfl hO dX6_init_109 ?_
  refine zY.iconst hO dX6_init_112 ?_
  refine zY.iconst hO dX6_init_113 ?_
  refine zY.as2 (b := ((1 : Nat) : Int)) (by omega) ?_
  refine zY.callV2vD (ct_putN (⟨by decide, (zu_gt (by decide)).trans rfl, by decide, (zu_gt (by decide)).trans rfl, by decide⟩ : zRow 18 (zu 1 6 [(0, 2), (0, 4), (0, 6), (0, 8), (0, 10), (0, 12), (0, 14), (0, 16)] sh) 2 3 16) (j := 1) (by omega)) (by decide) zcal_X5_put zml_X6_41 (by decide : 2 < 18) ((zu_gt (by decide)).trans rfl : (zu 1 6 [(0, 2), (0, 4), (0, 6), (0, 8), (0, 10), (0, 12), (0, 14), (0, 16)] sh) 2 = (0, 5, [(0, 3)])) rfl (Nat.le_of_ble_eq_true rfl) rfl (hG.le (c := 16) (s := 148) (by decide) (by decide)) hO dX6_init_114 ?_
  refine zY.aload_n hO dX6_init_117 rfl ?_
  refine zY.getR zfl_X6_14 (by decide : 1 < 18) (zu_eq : (zu 1 6 [(0, 2), (0, 4), (0, 6), (0, 8), (0, 10), (0, 12), (0, 14), (0, 16)] sh) 1 = (0, 6, [(0, 2), (0, 4), (0, 6), (0, 8), (0, 10), (0, 12), (0, 14), (0, 16)])) rfl hO dX6_init_118 ?_
  refine zY.bipush hO dX6_init_121 (by decide) ?_
  refine zY.iconst hO dX6_init_123 ?_
  refine zY.callV2vD (ct_X5_fillFrom (⟨by decide, (zu_gt (by decide)).trans rfl, by decide, (zu_gt (by decide)).trans rfl, by decide⟩ : zRow 18 (zu 1 6 [(0, 2), (0, 4), (0, 6), (0, 8), (0, 10), (0, 12), (0, 14), (0, 16)] sh) 2 3 16) ⟨by omega, by omega⟩) (by decide) zcal_X5_fillFrom zml_X6_45 (by decide : 2 < 18) ((zu_gt (by decide)).trans rfl : (zu 1 6 [(0, 2), (0, 4), (0, 6), (0, 8), (0, 10), (0, 12), (0, 14), (0, 16)] sh) 2 = (0, 5, [(0, 3)])) rfl (Nat.le_of_ble_eq_true rfl) rfl (hG.le (c := 16) (s := 148) (by decide) (by decide)) hO dX6_init_124 ?_
  refine zY.aload_n hO dX6_init_127 rfl ?_
  refine zY.getR zfl_X6_20 (by decide : 1 < 18) (zu_eq : (zu 1 6 [(0, 2), (0, 4), (0, 6), (0, 8), (0, 10), (0, 12), (0, 14), (0, 16)] sh) 1 = (0, 6, [(0, 2), (0, 4), (0, 6), (0, 8), (0, 10), (0, 12), (0, 14), (0, 16)])) rfl hO dX6_init_128 ?_
  refine zY.bipush hO dX6_init_131 (by decide) ?_
  refine zY.callV1vD (ct_X5_fill (⟨by decide, (zu_gt (by decide)).trans rfl, by decide, (zu_gt (by decide)).trans rfl, by decide⟩ : zRow 18 (zu 1 6 [(0, 2), (0, 4), (0, 6), (0, 8), (0, 10), (0, 12), (0, 14), (0, 16)] sh) 4 5 6)) (by decide) zcal_X5_fill zml_X6_48 (by decide : 4 < 18) ((zu_gt (by decide)).trans rfl : (zu 1 6 [(0, 2), (0, 4), (0, 6), (0, 8), (0, 10), (0, 12), (0, 14), (0, 16)] sh) 4 = (0, 5, [(0, 5)])) rfl (Nat.le_of_ble_eq_true rfl) rfl (hG.le (c := 16) (s := 148) (by decide) (by decide)) hO dX6_init_133 ?_
  refine zY.aload_n hO dX6_init_136 rfl ?_
  refine zY.getR zfl_X6_26 (by decide : 1 < 18) (zu_eq : (zu 1 6 [(0, 2), (0, 4), (0, 6), (0, 8), (0, 10), (0, 12), (0, 14), (0, 16)] sh) 1 = (0, 6, [(0, 2), (0, 4), (0, 6), (0, 8), (0, 10), (0, 12), (0, 14), (0, 16)])) rfl hO dX6_init_137 ?_
  refine zY.iconst hO dX6_init_140 ?_
  refine zY.callV1vD (ct_X5_fill (⟨by decide, (zu_gt (by decide)).trans rfl, by decide, (zu_gt (by decide)).trans rfl, by decide⟩ : zRow 18 (zu 1 6 [(0, 2), (0, 4), (0, 6), (0, 8), (0, 10), (0, 12), (0, 14), (0, 16)] sh) 8 9 10)) (by decide) zcal_X5_fill zml_X6_48 (by decide : 8 < 18) ((zu_gt (by decide)).trans rfl : (zu 1 6 [(0, 2), (0, 4), (0, 6), (0, 8), (0, 10), (0, 12), (0, 14), (0, 16)] sh) 8 = (0, 5, [(0, 9)])) rfl (Nat.le_of_ble_eq_true rfl) rfl (hG.le (c := 16) (s := 148) (by decide) (by decide)) hO dX6_init_141 ?_
  refine zY.aload_n hO dX6_init_144 rfl ?_
  refine zY.getR zfl_X6_29 (by decide : 1 < 18) (zu_eq : (zu 1 6 [(0, 2), (0, 4), (0, 6), (0, 8), (0, 10), (0, 12), (0, 14), (0, 16)] sh) 1 = (0, 6, [(0, 2), (0, 4), (0, 6), (0, 8), (0, 10), (0, 12), (0, 14), (0, 16)])) rfl hO dX6_init_145 ?_
  refine zY.bipush hO dX6_init_148 (by decide) ?_
  refine zY.callV1vD (ct_X5_fill (⟨by decide, (zu_gt (by decide)).trans rfl, by decide, (zu_gt (by decide)).trans rfl, by decide⟩ : zRow 18 (zu 1 6 [(0, 2), (0, 4), (0, 6), (0, 8), (0, 10), (0, 12), (0, 14), (0, 16)] sh) 10 11 10)) (by decide) zcal_X5_fill zml_X6_48 (by decide : 10 < 18) ((zu_gt (by decide)).trans rfl : (zu 1 6 [(0, 2), (0, 4), (0, 6), (0, 8), (0, 10), (0, 12), (0, 14), (0, 16)] sh) 10 = (0, 5, [(0, 11)])) rfl (Nat.le_of_ble_eq_true rfl) rfl (hG.le (c := 16) (s := 148) (by decide) (by decide)) hO dX6_init_150 ?_
  refine zY.aload_n hO dX6_init_153 rfl ?_
  refine zY.getR zfl_X6_38 (by decide : 1 < 18) (zu_eq : (zu 1 6 [(0, 2), (0, 4), (0, 6), (0, 8), (0, 10), (0, 12), (0, 14), (0, 16)] sh) 1 = (0, 6, [(0, 2), (0, 4), (0, 6), (0, 8), (0, 10), (0, 12), (0, 14), (0, 16)])) rfl hO dX6_init_154 ?_
  refine zY.bipush hO dX6_init_157 (by decide) ?_
  refine zY.callV1vD (ct_X5_fill (⟨by decide, (zu_gt (by decide)).trans rfl, by decide, (zu_gt (by decide)).trans rfl, by decide⟩ : zRow 18 (zu 1 6 [(0, 2), (0, 4), (0, 6), (0, 8), (0, 10), (0, 12), (0, 14), (0, 16)] sh) 16 17 6)) (by decide) zcal_X5_fill zml_X6_48 (by decide : 16 < 18) ((zu_gt (by decide)).trans rfl : (zu 1 6 [(0, 2), (0, 4), (0, 6), (0, 8), (0, 10), (0, 12), (0, 14), (0, 16)] sh) 16 = (0, 5, [(0, 17)])) rfl (Nat.le_of_ble_eq_true rfl) rfl (hG.le (c := 16) (s := 148) (by decide) (by decide)) hO dX6_init_159 ?_
  exact zY.cret rfl hR (by
        refine ⟨⟨fun w hw => ?_, fun s hs => ?_, ?_, ?_⟩, fun q hq => ?_⟩
        · simp [zrow, zwr, zD0, hw]
        · simp [zrow, zwr, zD0, hs]; omega
        · simp [zrow, zwr, zD0]
        · simp [zrow, zwr, zD0]
        · have h : ∀ m, 2 ≤ m → q ≠ m := fun m _ => by omega
          simp [zrow, zwr_ne, h]) had rfl (fun q _ => zu_zd rfl q) rfl rfl hO dX6_init_162

set_option maxRecDepth 100000 in
set_option maxHeartbeats 4000000 in
theorem cn_X6_22 {sh : Nat → zShc} {μ : zMem} (hs0 : zsok 22 sh)  : Cn kX6_init 6 23 (zu 22 6 [(3, 0), (3, 0), (3, 0), (3, 0), (3, 0), (3, 0), (3, 0), (3, 0)] sh) [zP 22] μ 39 (zd 22 sh) 16 148 (fun μ' => zShp 22 zD0 μ' ∧ ∀ q, q < 22 → μ' q = μ q) := by
  refine Cn.of [some (zP 22)] rfl (Nat.le_of_ble_eq_true rfl) (by decide +kernel) rfl (fun Γ ad sz hO hG hN hR => ?_)
  have had : zag 23 ad ad := zag.rfl'
  refine zY.aload_n hO dX6_init_0 rfl ?_
  refine zY.objI zml_X6_3 (by decide) rfl (Nat.le_of_ble_eq_true rfl) hO dX6_init_1 ?_
  refine zY.aload_n hO dX6_init_4 rfl ?_
  refine zY.new (sh' := (zu 23 5 [(3, 0)] (zu 22 6 [(3, 0), (3, 0), (3, 0), (3, 0), (3, 0), (3, 0), (3, 0), (3, 0)] sh))) (n1 := 24) (c1 := 1) (s1 := 1) zkk_X6_9 hG had (by decide) (by decide) (zsok_zu hs0 (by decide) (by decide +kernel)) zu_eq (fun q h => zu_lt h) (zlwL_some (zlw_P (Or.inl (by decide))) zlwL_nil) (zlwS_cons (zlw_P (Or.inl (by decide))) zlwS_nil) rfl rfl rfl ⟨by decide, by decide⟩ hO dX6_init_5 (fun ad1 had => ?_)
  refine zY.dup rfl hO dX6_init_8 ?_
  refine zY.bipush hO dX6_init_9 (by decide) ?_
  refine zY.callI1 (n' := 25) (sh' := (zu 22 6 [(3, 0), (3, 0), (3, 0), (3, 0), (3, 0), (3, 0), (3, 0), (3, 0)] sh)) (c1 := 2) (s1 := 17) (cn_X5 zrw_23 rfl (zsok_zu hs0 (by decide) (by decide +kernel)) (len := 16) (by omega)) (by decide) zcal_X5_init rfl rfl zml_X6_11 (Nat.le_of_ble_eq_true rfl) rfl hG had (by decide) (fun q _ => zd_zu (by decide) q) (zlwL_some (zlw_P (Or.inl (by decide))) zlwL_nil) (zlwS_cons (zlw_P (Or.inl (by decide))) (zlwS_cons (zlw_P (Or.inl (by decide))) zlwS_nil)) rfl rfl ⟨by decide, by decide⟩ hO dX6_init_11 (fun ad2 μ2 had hq2 => ?_)
  subst hq2
  refine zY.putF (p := 22) (fl := [(3, 0), (3, 0), (3, 0), (3, 0), (3, 0), (3, 0), (3, 0), (3, 0)]) (fl' := [(0, 23), (3, 0), (3, 0), (3, 0), (3, 0), (3, 0), (3, 0), (3, 0)]) zFF_X6_14 hN (by decide) (by decide) rfl hO dX6_init_14 ?_
  refine zY.aload_n hO dX6_init_17 rfl ?_
  refine zY.new (sh' := (zu 25 5 [(3, 0)] (zu 22 6 [(0, 23), (3, 0), (3, 0), (3, 0), (3, 0), (3, 0), (3, 0), (3, 0)] sh))) (n1 := 26) (c1 := 3) (s1 := 18) zkk_X6_9 hG had (by decide) (by decide) (zsok_zu hs0 (by decide) (by decide +kernel)) zu_eq (fun q h => zu_lt h) (zlwL_some (zlw_P (Or.inl (by decide))) zlwL_nil) (zlwS_cons (zlw_P (Or.inl (by decide))) zlwS_nil) rfl rfl rfl ⟨by decide, by decide⟩ hO dX6_init_18 (fun ad3 had => ?_)
  refine zY.dup rfl hO dX6_init_21 ?_
  refine zY.bipush hO dX6_init_22 (by decide) ?_
  refine zY.callI1 (n' := 27) (sh' := (zu 22 6 [(0, 23), (3, 0), (3, 0), (3, 0), (3, 0), (3, 0), (3, 0), (3, 0)] sh)) (c1 := 4) (s1 := 24) (cn_X5 zrw_25 rfl (zsok_zu hs0 (by decide) (by decide +kernel)) (len := 6) (by omega)) (by decide) zcal_X5_init rfl rfl zml_X6_11 (Nat.le_of_ble_eq_true rfl) rfl hG had (by decide) (fun q _ => zd_zu (by decide) q) (zlwL_some (zlw_P (Or.inl (by decide))) zlwL_nil) (zlwS_cons (zlw_P (Or.inl (by decide))) (zlwS_cons (zlw_P (Or.inl (by decide))) zlwS_nil)) rfl rfl ⟨by decide, by decide⟩ hO dX6_init_24 (fun ad4 μ4 had hq4 => ?_)
  subst hq4
  refine zY.putF (p := 22) (fl := [(0, 23), (3, 0), (3, 0), (3, 0), (3, 0), (3, 0), (3, 0), (3, 0)]) (fl' := [(0, 23), (0, 25), (3, 0), (3, 0), (3, 0), (3, 0), (3, 0), (3, 0)]) zFF_X6_20 hN (by decide) (by decide) rfl hO dX6_init_27 ?_
  refine zY.aload_n hO dX6_init_30 rfl ?_
  refine zY.new (sh' := (zu 27 5 [(3, 0)] (zu 22 6 [(0, 23), (0, 25), (3, 0), (3, 0), (3, 0), (3, 0), (3, 0), (3, 0)] sh))) (n1 := 28) (c1 := 5) (s1 := 25) zkk_X6_9 hG had (by decide) (by decide) (zsok_zu hs0 (by decide) (by decide +kernel)) zu_eq (fun q h => zu_lt h) (zlwL_some (zlw_P (Or.inl (by decide))) zlwL_nil) (zlwS_cons (zlw_P (Or.inl (by decide))) zlwS_nil) rfl rfl rfl ⟨by decide, by decide⟩ hO dX6_init_31 (fun ad5 had => ?_)
  refine zY.dup rfl hO dX6_init_34 ?_
  refine zY.bipush hO dX6_init_35 (by decide) ?_
  refine zY.callI1 (n' := 29) (sh' := (zu 22 6 [(0, 23), (0, 25), (3, 0), (3, 0), (3, 0), (3, 0), (3, 0), (3, 0)] sh)) (c1 := 6) (s1 := 75) (cn_X5 zrw_27 rfl (zsok_zu hs0 (by decide) (by decide +kernel)) (len := 50) (by omega)) (by decide) zcal_X5_init rfl rfl zml_X6_11 (Nat.le_of_ble_eq_true rfl) rfl hG had (by decide) (fun q _ => zd_zu (by decide) q) (zlwL_some (zlw_P (Or.inl (by decide))) zlwL_nil) (zlwS_cons (zlw_P (Or.inl (by decide))) (zlwS_cons (zlw_P (Or.inl (by decide))) zlwS_nil)) rfl rfl ⟨by decide, by decide⟩ hO dX6_init_37 (fun ad6 μ6 had hq6 => ?_)
  subst hq6
  refine zY.putF (p := 22) (fl := [(0, 23), (0, 25), (3, 0), (3, 0), (3, 0), (3, 0), (3, 0), (3, 0)]) (fl' := [(0, 23), (0, 25), (0, 27), (3, 0), (3, 0), (3, 0), (3, 0), (3, 0)]) zFF_X6_23 hN (by decide) (by decide) rfl hO dX6_init_40 ?_
  refine zY.aload_n hO dX6_init_43 rfl ?_
  refine zY.new (sh' := (zu 29 5 [(3, 0)] (zu 22 6 [(0, 23), (0, 25), (0, 27), (3, 0), (3, 0), (3, 0), (3, 0), (3, 0)] sh))) (n1 := 30) (c1 := 7) (s1 := 76) zkk_X6_9 hG had (by decide) (by decide) (zsok_zu hs0 (by decide) (by decide +kernel)) zu_eq (fun q h => zu_lt h) (zlwL_some (zlw_P (Or.inl (by decide))) zlwL_nil) (zlwS_cons (zlw_P (Or.inl (by decide))) zlwS_nil) rfl rfl rfl ⟨by decide, by decide⟩ hO dX6_init_44 (fun ad7 had => ?_)
  refine zY.dup rfl hO dX6_init_47 ?_
  refine zY.bipush hO dX6_init_48 (by decide) ?_
  refine zY.callI1 (n' := 31) (sh' := (zu 22 6 [(0, 23), (0, 25), (0, 27), (3, 0), (3, 0), (3, 0), (3, 0), (3, 0)] sh)) (c1 := 8) (s1 := 86) (cn_X5 zrw_29 rfl (zsok_zu hs0 (by decide) (by decide +kernel)) (len := 10) (by omega)) (by decide) zcal_X5_init rfl rfl zml_X6_11 (Nat.le_of_ble_eq_true rfl) rfl hG had (by decide) (fun q _ => zd_zu (by decide) q) (zlwL_some (zlw_P (Or.inl (by decide))) zlwL_nil) (zlwS_cons (zlw_P (Or.inl (by decide))) (zlwS_cons (zlw_P (Or.inl (by decide))) zlwS_nil)) rfl rfl ⟨by decide, by decide⟩ hO dX6_init_50 (fun ad8 μ8 had hq8 => ?_)
  subst hq8
  refine zY.putF (p := 22) (fl := [(0, 23), (0, 25), (0, 27), (3, 0), (3, 0), (3, 0), (3, 0), (3, 0)]) (fl' := [(0, 23), (0, 25), (0, 27), (0, 29), (3, 0), (3, 0), (3, 0), (3, 0)]) zFF_X6_26 hN (by decide) (by decide) rfl hO dX6_init_53 ?_
  refine zY.aload_n hO dX6_init_56 rfl ?_
  refine zY.new (sh' := (zu 31 5 [(3, 0)] (zu 22 6 [(0, 23), (0, 25), (0, 27), (0, 29), (3, 0), (3, 0), (3, 0), (3, 0)] sh))) (n1 := 32) (c1 := 9) (s1 := 87) zkk_X6_9 hG had (by decide) (by decide) (zsok_zu hs0 (by decide) (by decide +kernel)) zu_eq (fun q h => zu_lt h) (zlwL_some (zlw_P (Or.inl (by decide))) zlwL_nil) (zlwS_cons (zlw_P (Or.inl (by decide))) zlwS_nil) rfl rfl rfl ⟨by decide, by decide⟩ hO dX6_init_57 (fun ad9 had => ?_)
  refine zY.dup rfl hO dX6_init_60 ?_
  refine zY.bipush hO dX6_init_61 (by decide) ?_
  refine zY.callI1 (n' := 33) (sh' := (zu 22 6 [(0, 23), (0, 25), (0, 27), (0, 29), (3, 0), (3, 0), (3, 0), (3, 0)] sh)) (c1 := 10) (s1 := 97) (cn_X5 zrw_31 rfl (zsok_zu hs0 (by decide) (by decide +kernel)) (len := 10) (by omega)) (by decide) zcal_X5_init rfl rfl zml_X6_11 (Nat.le_of_ble_eq_true rfl) rfl hG had (by decide) (fun q _ => zd_zu (by decide) q) (zlwL_some (zlw_P (Or.inl (by decide))) zlwL_nil) (zlwS_cons (zlw_P (Or.inl (by decide))) (zlwS_cons (zlw_P (Or.inl (by decide))) zlwS_nil)) rfl rfl ⟨by decide, by decide⟩ hO dX6_init_63 (fun ad10 μ10 had hq10 => ?_)
  subst hq10
  refine zY.putF (p := 22) (fl := [(0, 23), (0, 25), (0, 27), (0, 29), (3, 0), (3, 0), (3, 0), (3, 0)]) (fl' := [(0, 23), (0, 25), (0, 27), (0, 29), (0, 31), (3, 0), (3, 0), (3, 0)]) zFF_X6_29 hN (by decide) (by decide) rfl hO dX6_init_66 ?_
  refine zY.aload_n hO dX6_init_69 rfl ?_
  refine zY.new (sh' := (zu 33 5 [(3, 0)] (zu 22 6 [(0, 23), (0, 25), (0, 27), (0, 29), (0, 31), (3, 0), (3, 0), (3, 0)] sh))) (n1 := 34) (c1 := 11) (s1 := 98) zkk_X6_9 hG had (by decide) (by decide) (zsok_zu hs0 (by decide) (by decide +kernel)) zu_eq (fun q h => zu_lt h) (zlwL_some (zlw_P (Or.inl (by decide))) zlwL_nil) (zlwS_cons (zlw_P (Or.inl (by decide))) zlwS_nil) rfl rfl rfl ⟨by decide, by decide⟩ hO dX6_init_70 (fun ad11 had => ?_)
  refine zY.dup rfl hO dX6_init_73 ?_
  refine zY.bipush hO dX6_init_74 (by decide) ?_
  refine zY.callI1 (n' := 35) (sh' := (zu 22 6 [(0, 23), (0, 25), (0, 27), (0, 29), (0, 31), (3, 0), (3, 0), (3, 0)] sh)) (c1 := 12) (s1 := 134) (cn_X5 zrw_33 rfl (zsok_zu hs0 (by decide) (by decide +kernel)) (len := 36) (by omega)) (by decide) zcal_X5_init rfl rfl zml_X6_11 (Nat.le_of_ble_eq_true rfl) rfl hG had (by decide) (fun q _ => zd_zu (by decide) q) (zlwL_some (zlw_P (Or.inl (by decide))) zlwL_nil) (zlwS_cons (zlw_P (Or.inl (by decide))) (zlwS_cons (zlw_P (Or.inl (by decide))) zlwS_nil)) rfl rfl ⟨by decide, by decide⟩ hO dX6_init_76 (fun ad12 μ12 had hq12 => ?_)
  subst hq12
  refine zY.putF (p := 22) (fl := [(0, 23), (0, 25), (0, 27), (0, 29), (0, 31), (3, 0), (3, 0), (3, 0)]) (fl' := [(0, 23), (0, 25), (0, 27), (0, 29), (0, 31), (0, 33), (3, 0), (3, 0)]) zFF_X6_32 hN (by decide) (by decide) rfl hO dX6_init_79 ?_
  refine zY.aload_n hO dX6_init_82 rfl ?_
  refine zY.new (sh' := (zu 35 5 [(3, 0)] (zu 22 6 [(0, 23), (0, 25), (0, 27), (0, 29), (0, 31), (0, 33), (3, 0), (3, 0)] sh))) (n1 := 36) (c1 := 13) (s1 := 135) zkk_X6_9 hG had (by decide) (by decide) (zsok_zu hs0 (by decide) (by decide +kernel)) zu_eq (fun q h => zu_lt h) (zlwL_some (zlw_P (Or.inl (by decide))) zlwL_nil) (zlwS_cons (zlw_P (Or.inl (by decide))) zlwS_nil) rfl rfl rfl ⟨by decide, by decide⟩ hO dX6_init_83 (fun ad13 had => ?_)
  refine zY.dup rfl hO dX6_init_86 ?_
  refine zY.bipush hO dX6_init_87 (by decide) ?_
  refine zY.callI1 (n' := 37) (sh' := (zu 22 6 [(0, 23), (0, 25), (0, 27), (0, 29), (0, 31), (0, 33), (3, 0), (3, 0)] sh)) (c1 := 14) (s1 := 141) (cn_X5 zrw_35 rfl (zsok_zu hs0 (by decide) (by decide +kernel)) (len := 6) (by omega)) (by decide) zcal_X5_init rfl rfl zml_X6_11 (Nat.le_of_ble_eq_true rfl) rfl hG had (by decide) (fun q _ => zd_zu (by decide) q) (zlwL_some (zlw_P (Or.inl (by decide))) zlwL_nil) (zlwS_cons (zlw_P (Or.inl (by decide))) (zlwS_cons (zlw_P (Or.inl (by decide))) zlwS_nil)) rfl rfl ⟨by decide, by decide⟩ hO dX6_init_89 (fun ad14 μ14 had hq14 => ?_)
  subst hq14
  refine zY.putF (p := 22) (fl := [(0, 23), (0, 25), (0, 27), (0, 29), (0, 31), (0, 33), (3, 0), (3, 0)]) (fl' := [(0, 23), (0, 25), (0, 27), (0, 29), (0, 31), (0, 33), (0, 35), (3, 0)]) zFF_X6_35 hN (by decide) (by decide) rfl hO dX6_init_92 ?_
  refine zY.aload_n hO dX6_init_95 rfl ?_
  refine zY.new (sh' := (zu 37 5 [(3, 0)] (zu 22 6 [(0, 23), (0, 25), (0, 27), (0, 29), (0, 31), (0, 33), (0, 35), (3, 0)] sh))) (n1 := 38) (c1 := 15) (s1 := 142) zkk_X6_9 hG had (by decide) (by decide) (zsok_zu hs0 (by decide) (by decide +kernel)) zu_eq (fun q h => zu_lt h) (zlwL_some (zlw_P (Or.inl (by decide))) zlwL_nil) (zlwS_cons (zlw_P (Or.inl (by decide))) zlwS_nil) rfl rfl rfl ⟨by decide, by decide⟩ hO dX6_init_96 (fun ad15 had => ?_)
  refine zY.dup rfl hO dX6_init_99 ?_
  refine zY.bipush hO dX6_init_100 (by decide) ?_
  refine zY.callI1 (n' := 39) (sh' := (zu 22 6 [(0, 23), (0, 25), (0, 27), (0, 29), (0, 31), (0, 33), (0, 35), (3, 0)] sh)) (c1 := 16) (s1 := 148) (cn_X5 zrw_37 rfl (zsok_zu hs0 (by decide) (by decide +kernel)) (len := 6) (by omega)) (by decide) zcal_X5_init rfl rfl zml_X6_11 (Nat.le_of_ble_eq_true rfl) rfl hG had (by decide) (fun q _ => zd_zu (by decide) q) (zlwL_some (zlw_P (Or.inl (by decide))) zlwL_nil) (zlwS_cons (zlw_P (Or.inl (by decide))) (zlwS_cons (zlw_P (Or.inl (by decide))) zlwS_nil)) rfl rfl ⟨by decide, by decide⟩ hO dX6_init_102 (fun ad16 μ16 had hq16 => ?_)
  subst hq16
  refine zY.putF (p := 22) (fl := [(0, 23), (0, 25), (0, 27), (0, 29), (0, 31), (0, 33), (0, 35), (3, 0)]) (fl' := [(0, 23), (0, 25), (0, 27), (0, 29), (0, 31), (0, 33), (0, 35), (0, 37)]) zFF_X6_38 hN (by decide) (by decide) rfl hO dX6_init_105 ?_
  refine zY.aload_n hO dX6_init_108 rfl ?_
  refine zY.getR zfl_X6_14 (by decide : 22 < 39) (zu_eq : (zu 22 6 [(0, 23), (0, 25), (0, 27), (0, 29), (0, 31), (0, 33), (0, 35), (0, 37)] sh) 22 = (0, 6, [(0, 23), (0, 25), (0, 27), (0, 29), (0, 31), (0, 33), (0, 35), (0, 37)])) rfl hO dX6_init_109 ?_
  refine zY.iconst hO dX6_init_112 ?_
  refine zY.iconst hO dX6_init_113 ?_
  refine zY.as2 (b := ((1 : Nat) : Int)) (by omega) ?_
  refine zY.callV2vD (ct_putN (⟨by decide, (zu_gt (by decide)).trans rfl, by decide, (zu_gt (by decide)).trans rfl, by decide⟩ : zRow 39 (zu 22 6 [(0, 23), (0, 25), (0, 27), (0, 29), (0, 31), (0, 33), (0, 35), (0, 37)] sh) 23 24 16) (j := 1) (by omega)) (by decide) zcal_X5_put zml_X6_41 (by decide : 23 < 39) ((zu_gt (by decide)).trans rfl : (zu 22 6 [(0, 23), (0, 25), (0, 27), (0, 29), (0, 31), (0, 33), (0, 35), (0, 37)] sh) 23 = (0, 5, [(0, 24)])) rfl (Nat.le_of_ble_eq_true rfl) rfl (hG.le (c := 16) (s := 148) (by decide) (by decide)) hO dX6_init_114 ?_
  refine zY.aload_n hO dX6_init_117 rfl ?_
  refine zY.getR zfl_X6_14 (by decide : 22 < 39) (zu_eq : (zu 22 6 [(0, 23), (0, 25), (0, 27), (0, 29), (0, 31), (0, 33), (0, 35), (0, 37)] sh) 22 = (0, 6, [(0, 23), (0, 25), (0, 27), (0, 29), (0, 31), (0, 33), (0, 35), (0, 37)])) rfl hO dX6_init_118 ?_
  refine zY.bipush hO dX6_init_121 (by decide) ?_
  refine zY.iconst hO dX6_init_123 ?_
  refine zY.callV2vD (ct_X5_fillFrom (⟨by decide, (zu_gt (by decide)).trans rfl, by decide, (zu_gt (by decide)).trans rfl, by decide⟩ : zRow 39 (zu 22 6 [(0, 23), (0, 25), (0, 27), (0, 29), (0, 31), (0, 33), (0, 35), (0, 37)] sh) 23 24 16) ⟨by omega, by omega⟩) (by decide) zcal_X5_fillFrom zml_X6_45 (by decide : 23 < 39) ((zu_gt (by decide)).trans rfl : (zu 22 6 [(0, 23), (0, 25), (0, 27), (0, 29), (0, 31), (0, 33), (0, 35), (0, 37)] sh) 23 = (0, 5, [(0, 24)])) rfl (Nat.le_of_ble_eq_true rfl) rfl (hG.le (c := 16) (s := 148) (by decide) (by decide)) hO dX6_init_124 ?_
  refine zY.aload_n hO dX6_init_127 rfl ?_
  refine zY.getR zfl_X6_20 (by decide : 22 < 39) (zu_eq : (zu 22 6 [(0, 23), (0, 25), (0, 27), (0, 29), (0, 31), (0, 33), (0, 35), (0, 37)] sh) 22 = (0, 6, [(0, 23), (0, 25), (0, 27), (0, 29), (0, 31), (0, 33), (0, 35), (0, 37)])) rfl hO dX6_init_128 ?_
  refine zY.bipush hO dX6_init_131 (by decide) ?_
  refine zY.callV1vD (ct_X5_fill (⟨by decide, (zu_gt (by decide)).trans rfl, by decide, (zu_gt (by decide)).trans rfl, by decide⟩ : zRow 39 (zu 22 6 [(0, 23), (0, 25), (0, 27), (0, 29), (0, 31), (0, 33), (0, 35), (0, 37)] sh) 25 26 6)) (by decide) zcal_X5_fill zml_X6_48 (by decide : 25 < 39) ((zu_gt (by decide)).trans rfl : (zu 22 6 [(0, 23), (0, 25), (0, 27), (0, 29), (0, 31), (0, 33), (0, 35), (0, 37)] sh) 25 = (0, 5, [(0, 26)])) rfl (Nat.le_of_ble_eq_true rfl) rfl (hG.le (c := 16) (s := 148) (by decide) (by decide)) hO dX6_init_133 ?_
  refine zY.aload_n hO dX6_init_136 rfl ?_
  refine zY.getR zfl_X6_26 (by decide : 22 < 39) (zu_eq : (zu 22 6 [(0, 23), (0, 25), (0, 27), (0, 29), (0, 31), (0, 33), (0, 35), (0, 37)] sh) 22 = (0, 6, [(0, 23), (0, 25), (0, 27), (0, 29), (0, 31), (0, 33), (0, 35), (0, 37)])) rfl hO dX6_init_137 ?_
  refine zY.iconst hO dX6_init_140 ?_
  refine zY.callV1vD (ct_X5_fill (⟨by decide, (zu_gt (by decide)).trans rfl, by decide, (zu_gt (by decide)).trans rfl, by decide⟩ : zRow 39 (zu 22 6 [(0, 23), (0, 25), (0, 27), (0, 29), (0, 31), (0, 33), (0, 35), (0, 37)] sh) 29 30 10)) (by decide) zcal_X5_fill zml_X6_48 (by decide : 29 < 39) ((zu_gt (by decide)).trans rfl : (zu 22 6 [(0, 23), (0, 25), (0, 27), (0, 29), (0, 31), (0, 33), (0, 35), (0, 37)] sh) 29 = (0, 5, [(0, 30)])) rfl (Nat.le_of_ble_eq_true rfl) rfl (hG.le (c := 16) (s := 148) (by decide) (by decide)) hO dX6_init_141 ?_
  refine zY.aload_n hO dX6_init_144 rfl ?_
  refine zY.getR zfl_X6_29 (by decide : 22 < 39) (zu_eq : (zu 22 6 [(0, 23), (0, 25), (0, 27), (0, 29), (0, 31), (0, 33), (0, 35), (0, 37)] sh) 22 = (0, 6, [(0, 23), (0, 25), (0, 27), (0, 29), (0, 31), (0, 33), (0, 35), (0, 37)])) rfl hO dX6_init_145 ?_
  refine zY.bipush hO dX6_init_148 (by decide) ?_
  refine zY.callV1vD (ct_X5_fill (⟨by decide, (zu_gt (by decide)).trans rfl, by decide, (zu_gt (by decide)).trans rfl, by decide⟩ : zRow 39 (zu 22 6 [(0, 23), (0, 25), (0, 27), (0, 29), (0, 31), (0, 33), (0, 35), (0, 37)] sh) 31 32 10)) (by decide) zcal_X5_fill zml_X6_48 (by decide : 31 < 39) ((zu_gt (by decide)).trans rfl : (zu 22 6 [(0, 23), (0, 25), (0, 27), (0, 29), (0, 31), (0, 33), (0, 35), (0, 37)] sh) 31 = (0, 5, [(0, 32)])) rfl (Nat.le_of_ble_eq_true rfl) rfl (hG.le (c := 16) (s := 148) (by decide) (by decide)) hO dX6_init_150 ?_
  refine zY.aload_n hO dX6_init_153 rfl ?_
  refine zY.getR zfl_X6_38 (by decide : 22 < 39) (zu_eq : (zu 22 6 [(0, 23), (0, 25), (0, 27), (0, 29), (0, 31), (0, 33), (0, 35), (0, 37)] sh) 22 = (0, 6, [(0, 23), (0, 25), (0, 27), (0, 29), (0, 31), (0, 33), (0, 35), (0, 37)])) rfl hO dX6_init_154 ?_
  refine zY.bipush hO dX6_init_157 (by decide) ?_
  refine zY.callV1vD (ct_X5_fill (⟨by decide, (zu_gt (by decide)).trans rfl, by decide, (zu_gt (by decide)).trans rfl, by decide⟩ : zRow 39 (zu 22 6 [(0, 23), (0, 25), (0, 27), (0, 29), (0, 31), (0, 33), (0, 35), (0, 37)] sh) 37 38 6)) (by decide) zcal_X5_fill zml_X6_48 (by decide : 37 < 39) ((zu_gt (by decide)).trans rfl : (zu 22 6 [(0, 23), (0, 25), (0, 27), (0, 29), (0, 31), (0, 33), (0, 35), (0, 37)] sh) 37 = (0, 5, [(0, 38)])) rfl (Nat.le_of_ble_eq_true rfl) rfl (hG.le (c := 16) (s := 148) (by decide) (by decide)) hO dX6_init_159 ?_
  exact zY.cret rfl hR (by
        refine ⟨⟨fun w hw => ?_, fun s hs => ?_, ?_, ?_⟩, fun q hq => ?_⟩
        · simp [zrow, zwr, zD0, hw]
        · simp [zrow, zwr, zD0, hs]; omega
        · simp [zrow, zwr, zD0]
        · simp [zrow, zwr, zD0]
        · have h : ∀ m, 23 ≤ m → q ≠ m := fun m _ => by omega
          simp [zrow, zwr_ne, h]) had rfl (fun q _ => zu_zd rfl q) rfl rfl hO dX6_init_162

set_option maxRecDepth 100000 in
set_option maxHeartbeats 4000000 in
theorem cn_X6_40 {sh : Nat → zShc} {μ : zMem} (hs0 : zsok 40 sh)  : Cn kX6_init 6 41 (zu 40 6 [(3, 0), (3, 0), (3, 0), (3, 0), (3, 0), (3, 0), (3, 0), (3, 0)] sh) [zP 40] μ 57 (zd 40 sh) 16 148 (fun μ' => zShp 40 zD0 μ' ∧ ∀ q, q < 40 → μ' q = μ q) := by
  refine Cn.of [some (zP 40)] rfl (Nat.le_of_ble_eq_true rfl) (by decide +kernel) rfl (fun Γ ad sz hO hG hN hR => ?_)
  have had : zag 41 ad ad := zag.rfl'
  refine zY.aload_n hO dX6_init_0 rfl ?_
  refine zY.objI zml_X6_3 (by decide) rfl (Nat.le_of_ble_eq_true rfl) hO dX6_init_1 ?_
  refine zY.aload_n hO dX6_init_4 rfl ?_
  refine zY.new (sh' := (zu 41 5 [(3, 0)] (zu 40 6 [(3, 0), (3, 0), (3, 0), (3, 0), (3, 0), (3, 0), (3, 0), (3, 0)] sh))) (n1 := 42) (c1 := 1) (s1 := 1) zkk_X6_9 hG had (by decide) (by decide) (zsok_zu hs0 (by decide) (by decide +kernel)) zu_eq (fun q h => zu_lt h) (zlwL_some (zlw_P (Or.inl (by decide))) zlwL_nil) (zlwS_cons (zlw_P (Or.inl (by decide))) zlwS_nil) rfl rfl rfl ⟨by decide, by decide⟩ hO dX6_init_5 (fun ad1 had => ?_)
  refine zY.dup rfl hO dX6_init_8 ?_
  refine zY.bipush hO dX6_init_9 (by decide) ?_
  refine zY.callI1 (n' := 43) (sh' := (zu 40 6 [(3, 0), (3, 0), (3, 0), (3, 0), (3, 0), (3, 0), (3, 0), (3, 0)] sh)) (c1 := 2) (s1 := 17) (cn_X5 zrw_41 rfl (zsok_zu hs0 (by decide) (by decide +kernel)) (len := 16) (by omega)) (by decide) zcal_X5_init rfl rfl zml_X6_11 (Nat.le_of_ble_eq_true rfl) rfl hG had (by decide) (fun q _ => zd_zu (by decide) q) (zlwL_some (zlw_P (Or.inl (by decide))) zlwL_nil) (zlwS_cons (zlw_P (Or.inl (by decide))) (zlwS_cons (zlw_P (Or.inl (by decide))) zlwS_nil)) rfl rfl ⟨by decide, by decide⟩ hO dX6_init_11 (fun ad2 μ2 had hq2 => ?_)
  subst hq2
  refine zY.putF (p := 40) (fl := [(3, 0), (3, 0), (3, 0), (3, 0), (3, 0), (3, 0), (3, 0), (3, 0)]) (fl' := [(0, 41), (3, 0), (3, 0), (3, 0), (3, 0), (3, 0), (3, 0), (3, 0)]) zFF_X6_14 hN (by decide) (by decide) rfl hO dX6_init_14 ?_
  refine zY.aload_n hO dX6_init_17 rfl ?_
  refine zY.new (sh' := (zu 43 5 [(3, 0)] (zu 40 6 [(0, 41), (3, 0), (3, 0), (3, 0), (3, 0), (3, 0), (3, 0), (3, 0)] sh))) (n1 := 44) (c1 := 3) (s1 := 18) zkk_X6_9 hG had (by decide) (by decide) (zsok_zu hs0 (by decide) (by decide +kernel)) zu_eq (fun q h => zu_lt h) (zlwL_some (zlw_P (Or.inl (by decide))) zlwL_nil) (zlwS_cons (zlw_P (Or.inl (by decide))) zlwS_nil) rfl rfl rfl ⟨by decide, by decide⟩ hO dX6_init_18 (fun ad3 had => ?_)
  refine zY.dup rfl hO dX6_init_21 ?_
  refine zY.bipush hO dX6_init_22 (by decide) ?_
  refine zY.callI1 (n' := 45) (sh' := (zu 40 6 [(0, 41), (3, 0), (3, 0), (3, 0), (3, 0), (3, 0), (3, 0), (3, 0)] sh)) (c1 := 4) (s1 := 24) (cn_X5 zrw_43 rfl (zsok_zu hs0 (by decide) (by decide +kernel)) (len := 6) (by omega)) (by decide) zcal_X5_init rfl rfl zml_X6_11 (Nat.le_of_ble_eq_true rfl) rfl hG had (by decide) (fun q _ => zd_zu (by decide) q) (zlwL_some (zlw_P (Or.inl (by decide))) zlwL_nil) (zlwS_cons (zlw_P (Or.inl (by decide))) (zlwS_cons (zlw_P (Or.inl (by decide))) zlwS_nil)) rfl rfl ⟨by decide, by decide⟩ hO dX6_init_24 (fun ad4 μ4 had hq4 => ?_)
  subst hq4
  refine zY.putF (p := 40) (fl := [(0, 41), (3, 0), (3, 0), (3, 0), (3, 0), (3, 0), (3, 0), (3, 0)]) (fl' := [(0, 41), (0, 43), (3, 0), (3, 0), (3, 0), (3, 0), (3, 0), (3, 0)]) zFF_X6_20 hN (by decide) (by decide) rfl hO dX6_init_27 ?_
  refine zY.aload_n hO dX6_init_30 rfl ?_
  refine zY.new (sh' := (zu 45 5 [(3, 0)] (zu 40 6 [(0, 41), (0, 43), (3, 0), (3, 0), (3, 0), (3, 0), (3, 0), (3, 0)] sh))) (n1 := 46) (c1 := 5) (s1 := 25) zkk_X6_9 hG had (by decide) (by decide) (zsok_zu hs0 (by decide) (by decide +kernel)) zu_eq (fun q h => zu_lt h) (zlwL_some (zlw_P (Or.inl (by decide))) zlwL_nil) (zlwS_cons (zlw_P (Or.inl (by decide))) zlwS_nil) rfl rfl rfl ⟨by decide, by decide⟩ hO dX6_init_31 (fun ad5 had => ?_)
  refine zY.dup rfl hO dX6_init_34 ?_
  refine zY.bipush hO dX6_init_35 (by decide) ?_
  refine zY.callI1 (n' := 47) (sh' := (zu 40 6 [(0, 41), (0, 43), (3, 0), (3, 0), (3, 0), (3, 0), (3, 0), (3, 0)] sh)) (c1 := 6) (s1 := 75) (cn_X5 zrw_45 rfl (zsok_zu hs0 (by decide) (by decide +kernel)) (len := 50) (by omega)) (by decide) zcal_X5_init rfl rfl zml_X6_11 (Nat.le_of_ble_eq_true rfl) rfl hG had (by decide) (fun q _ => zd_zu (by decide) q) (zlwL_some (zlw_P (Or.inl (by decide))) zlwL_nil) (zlwS_cons (zlw_P (Or.inl (by decide))) (zlwS_cons (zlw_P (Or.inl (by decide))) zlwS_nil)) rfl rfl ⟨by decide, by decide⟩ hO dX6_init_37 (fun ad6 μ6 had hq6 => ?_)
  subst hq6
  refine zY.putF (p := 40) (fl := [(0, 41), (0, 43), (3, 0), (3, 0), (3, 0), (3, 0), (3, 0), (3, 0)]) (fl' := [(0, 41), (0, 43), (0, 45), (3, 0), (3, 0), (3, 0), (3, 0), (3, 0)]) zFF_X6_23 hN (by decide) (by decide) rfl hO dX6_init_40 ?_
  refine zY.aload_n hO dX6_init_43 rfl ?_
  refine zY.new (sh' := (zu 47 5 [(3, 0)] (zu 40 6 [(0, 41), (0, 43), (0, 45), (3, 0), (3, 0), (3, 0), (3, 0), (3, 0)] sh))) (n1 := 48) (c1 := 7) (s1 := 76) zkk_X6_9 hG had (by decide) (by decide) (zsok_zu hs0 (by decide) (by decide +kernel)) zu_eq (fun q h => zu_lt h) (zlwL_some (zlw_P (Or.inl (by decide))) zlwL_nil) (zlwS_cons (zlw_P (Or.inl (by decide))) zlwS_nil) rfl rfl rfl ⟨by decide, by decide⟩ hO dX6_init_44 (fun ad7 had => ?_)
  refine zY.dup rfl hO dX6_init_47 ?_
  refine zY.bipush hO dX6_init_48 (by decide) ?_
  refine zY.callI1 (n' := 49) (sh' := (zu 40 6 [(0, 41), (0, 43), (0, 45), (3, 0), (3, 0), (3, 0), (3, 0), (3, 0)] sh)) (c1 := 8) (s1 := 86) (cn_X5 zrw_47 rfl (zsok_zu hs0 (by decide) (by decide +kernel)) (len := 10) (by omega)) (by decide) zcal_X5_init rfl rfl zml_X6_11 (Nat.le_of_ble_eq_true rfl) rfl hG had (by decide) (fun q _ => zd_zu (by decide) q) (zlwL_some (zlw_P (Or.inl (by decide))) zlwL_nil) (zlwS_cons (zlw_P (Or.inl (by decide))) (zlwS_cons (zlw_P (Or.inl (by decide))) zlwS_nil)) rfl rfl ⟨by decide, by decide⟩ hO dX6_init_50 (fun ad8 μ8 had hq8 => ?_)
  subst hq8
  refine zY.putF (p := 40) (fl := [(0, 41), (0, 43), (0, 45), (3, 0), (3, 0), (3, 0), (3, 0), (3, 0)]) (fl' := [(0, 41), (0, 43), (0, 45), (0, 47), (3, 0), (3, 0), (3, 0), (3, 0)]) zFF_X6_26 hN (by decide) (by decide) rfl hO dX6_init_53 ?_
  refine zY.aload_n hO dX6_init_56 rfl ?_
  refine zY.new (sh' := (zu 49 5 [(3, 0)] (zu 40 6 [(0, 41), (0, 43), (0, 45), (0, 47), (3, 0), (3, 0), (3, 0), (3, 0)] sh))) (n1 := 50) (c1 := 9) (s1 := 87) zkk_X6_9 hG had (by decide) (by decide) (zsok_zu hs0 (by decide) (by decide +kernel)) zu_eq (fun q h => zu_lt h) (zlwL_some (zlw_P (Or.inl (by decide))) zlwL_nil) (zlwS_cons (zlw_P (Or.inl (by decide))) zlwS_nil) rfl rfl rfl ⟨by decide, by decide⟩ hO dX6_init_57 (fun ad9 had => ?_)
  refine zY.dup rfl hO dX6_init_60 ?_
  refine zY.bipush hO dX6_init_61 (by decide) ?_
  refine zY.callI1 (n' := 51) (sh' := (zu 40 6 [(0, 41), (0, 43), (0, 45), (0, 47), (3, 0), (3, 0), (3, 0), (3, 0)] sh)) (c1 := 10) (s1 := 97) (cn_X5 zrw_49 rfl (zsok_zu hs0 (by decide) (by decide +kernel)) (len := 10) (by omega)) (by decide) zcal_X5_init rfl rfl zml_X6_11 (Nat.le_of_ble_eq_true rfl) rfl hG had (by decide) (fun q _ => zd_zu (by decide) q) (zlwL_some (zlw_P (Or.inl (by decide))) zlwL_nil) (zlwS_cons (zlw_P (Or.inl (by decide))) (zlwS_cons (zlw_P (Or.inl (by decide))) zlwS_nil)) rfl rfl ⟨by decide, by decide⟩ hO dX6_init_63 (fun ad10 μ10 had hq10 => ?_)
  subst hq10
  refine zY.putF (p := 40) (fl := [(0, 41), (0, 43), (0, 45), (0, 47), (3, 0), (3, 0), (3, 0), (3, 0)]) (fl' := [(0, 41), (0, 43), (0, 45), (0, 47), (0, 49), (3, 0), (3, 0), (3, 0)]) zFF_X6_29 hN (by decide) (by decide) rfl hO dX6_init_66 ?_
  refine zY.aload_n hO dX6_init_69 rfl ?_
  refine zY.new (sh' := (zu 51 5 [(3, 0)] (zu 40 6 [(0, 41), (0, 43), (0, 45), (0, 47), (0, 49), (3, 0), (3, 0), (3, 0)] sh))) (n1 := 52) (c1 := 11) (s1 := 98) zkk_X6_9 hG had (by decide) (by decide) (zsok_zu hs0 (by decide) (by decide +kernel)) zu_eq (fun q h => zu_lt h) (zlwL_some (zlw_P (Or.inl (by decide))) zlwL_nil) (zlwS_cons (zlw_P (Or.inl (by decide))) zlwS_nil) rfl rfl rfl ⟨by decide, by decide⟩ hO dX6_init_70 (fun ad11 had => ?_)
  refine zY.dup rfl hO dX6_init_73 ?_
  refine zY.bipush hO dX6_init_74 (by decide) ?_
  refine zY.callI1 (n' := 53) (sh' := (zu 40 6 [(0, 41), (0, 43), (0, 45), (0, 47), (0, 49), (3, 0), (3, 0), (3, 0)] sh)) (c1 := 12) (s1 := 134) (cn_X5 zrw_51 rfl (zsok_zu hs0 (by decide) (by decide +kernel)) (len := 36) (by omega)) (by decide) zcal_X5_init rfl rfl zml_X6_11 (Nat.le_of_ble_eq_true rfl) rfl hG had (by decide) (fun q _ => zd_zu (by decide) q) (zlwL_some (zlw_P (Or.inl (by decide))) zlwL_nil) (zlwS_cons (zlw_P (Or.inl (by decide))) (zlwS_cons (zlw_P (Or.inl (by decide))) zlwS_nil)) rfl rfl ⟨by decide, by decide⟩ hO dX6_init_76 (fun ad12 μ12 had hq12 => ?_)
  subst hq12
  refine zY.putF (p := 40) (fl := [(0, 41), (0, 43), (0, 45), (0, 47), (0, 49), (3, 0), (3, 0), (3, 0)]) (fl' := [(0, 41), (0, 43), (0, 45), (0, 47), (0, 49), (0, 51), (3, 0), (3, 0)]) zFF_X6_32 hN (by decide) (by decide) rfl hO dX6_init_79 ?_
  refine zY.aload_n hO dX6_init_82 rfl ?_
  refine zY.new (sh' := (zu 53 5 [(3, 0)] (zu 40 6 [(0, 41), (0, 43), (0, 45), (0, 47), (0, 49), (0, 51), (3, 0), (3, 0)] sh))) (n1 := 54) (c1 := 13) (s1 := 135) zkk_X6_9 hG had (by decide) (by decide) (zsok_zu hs0 (by decide) (by decide +kernel)) zu_eq (fun q h => zu_lt h) (zlwL_some (zlw_P (Or.inl (by decide))) zlwL_nil) (zlwS_cons (zlw_P (Or.inl (by decide))) zlwS_nil) rfl rfl rfl ⟨by decide, by decide⟩ hO dX6_init_83 (fun ad13 had => ?_)
  refine zY.dup rfl hO dX6_init_86 ?_
  refine zY.bipush hO dX6_init_87 (by decide) ?_
  refine zY.callI1 (n' := 55) (sh' := (zu 40 6 [(0, 41), (0, 43), (0, 45), (0, 47), (0, 49), (0, 51), (3, 0), (3, 0)] sh)) (c1 := 14) (s1 := 141) (cn_X5 zrw_53 rfl (zsok_zu hs0 (by decide) (by decide +kernel)) (len := 6) (by omega)) (by decide) zcal_X5_init rfl rfl zml_X6_11 (Nat.le_of_ble_eq_true rfl) rfl hG had (by decide) (fun q _ => zd_zu (by decide) q) (zlwL_some (zlw_P (Or.inl (by decide))) zlwL_nil) (zlwS_cons (zlw_P (Or.inl (by decide))) (zlwS_cons (zlw_P (Or.inl (by decide))) zlwS_nil)) rfl rfl ⟨by decide, by decide⟩ hO dX6_init_89 (fun ad14 μ14 had hq14 => ?_)
  subst hq14
  refine zY.putF (p := 40) (fl := [(0, 41), (0, 43), (0, 45), (0, 47), (0, 49), (0, 51), (3, 0), (3, 0)]) (fl' := [(0, 41), (0, 43), (0, 45), (0, 47), (0, 49), (0, 51), (0, 53), (3, 0)]) zFF_X6_35 hN (by decide) (by decide) rfl hO dX6_init_92 ?_
  refine zY.aload_n hO dX6_init_95 rfl ?_
  refine zY.new (sh' := (zu 55 5 [(3, 0)] (zu 40 6 [(0, 41), (0, 43), (0, 45), (0, 47), (0, 49), (0, 51), (0, 53), (3, 0)] sh))) (n1 := 56) (c1 := 15) (s1 := 142) zkk_X6_9 hG had (by decide) (by decide) (zsok_zu hs0 (by decide) (by decide +kernel)) zu_eq (fun q h => zu_lt h) (zlwL_some (zlw_P (Or.inl (by decide))) zlwL_nil) (zlwS_cons (zlw_P (Or.inl (by decide))) zlwS_nil) rfl rfl rfl ⟨by decide, by decide⟩ hO dX6_init_96 (fun ad15 had => ?_)
  refine zY.dup rfl hO dX6_init_99 ?_
  refine zY.bipush hO dX6_init_100 (by decide) ?_
  refine zY.callI1 (n' := 57) (sh' := (zu 40 6 [(0, 41), (0, 43), (0, 45), (0, 47), (0, 49), (0, 51), (0, 53), (3, 0)] sh)) (c1 := 16) (s1 := 148) (cn_X5 zrw_55 rfl (zsok_zu hs0 (by decide) (by decide +kernel)) (len := 6) (by omega)) (by decide) zcal_X5_init rfl rfl zml_X6_11 (Nat.le_of_ble_eq_true rfl) rfl hG had (by decide) (fun q _ => zd_zu (by decide) q) (zlwL_some (zlw_P (Or.inl (by decide))) zlwL_nil) (zlwS_cons (zlw_P (Or.inl (by decide))) (zlwS_cons (zlw_P (Or.inl (by decide))) zlwS_nil)) rfl rfl ⟨by decide, by decide⟩ hO dX6_init_102 (fun ad16 μ16 had hq16 => ?_)
  subst hq16
  refine zY.putF (p := 40) (fl := [(0, 41), (0, 43), (0, 45), (0, 47), (0, 49), (0, 51), (0, 53), (3, 0)]) (fl' := [(0, 41), (0, 43), (0, 45), (0, 47), (0, 49), (0, 51), (0, 53), (0, 55)]) zFF_X6_38 hN (by decide) (by decide) rfl hO dX6_init_105 ?_
  refine zY.aload_n hO dX6_init_108 rfl ?_
  refine zY.getR zfl_X6_14 (by decide : 40 < 57) (zu_eq : (zu 40 6 [(0, 41), (0, 43), (0, 45), (0, 47), (0, 49), (0, 51), (0, 53), (0, 55)] sh) 40 = (0, 6, [(0, 41), (0, 43), (0, 45), (0, 47), (0, 49), (0, 51), (0, 53), (0, 55)])) rfl hO dX6_init_109 ?_
  refine zY.iconst hO dX6_init_112 ?_
  refine zY.iconst hO dX6_init_113 ?_
  refine zY.as2 (b := ((1 : Nat) : Int)) (by omega) ?_
  refine zY.callV2vD (ct_putN (⟨by decide, (zu_gt (by decide)).trans rfl, by decide, (zu_gt (by decide)).trans rfl, by decide⟩ : zRow 57 (zu 40 6 [(0, 41), (0, 43), (0, 45), (0, 47), (0, 49), (0, 51), (0, 53), (0, 55)] sh) 41 42 16) (j := 1) (by omega)) (by decide) zcal_X5_put zml_X6_41 (by decide : 41 < 57) ((zu_gt (by decide)).trans rfl : (zu 40 6 [(0, 41), (0, 43), (0, 45), (0, 47), (0, 49), (0, 51), (0, 53), (0, 55)] sh) 41 = (0, 5, [(0, 42)])) rfl (Nat.le_of_ble_eq_true rfl) rfl (hG.le (c := 16) (s := 148) (by decide) (by decide)) hO dX6_init_114 ?_
  refine zY.aload_n hO dX6_init_117 rfl ?_
  refine zY.getR zfl_X6_14 (by decide : 40 < 57) (zu_eq : (zu 40 6 [(0, 41), (0, 43), (0, 45), (0, 47), (0, 49), (0, 51), (0, 53), (0, 55)] sh) 40 = (0, 6, [(0, 41), (0, 43), (0, 45), (0, 47), (0, 49), (0, 51), (0, 53), (0, 55)])) rfl hO dX6_init_118 ?_
  refine zY.bipush hO dX6_init_121 (by decide) ?_
  refine zY.iconst hO dX6_init_123 ?_
  refine zY.callV2vD (ct_X5_fillFrom (⟨by decide, (zu_gt (by decide)).trans rfl, by decide, (zu_gt (by decide)).trans rfl, by decide⟩ : zRow 57 (zu 40 6 [(0, 41), (0, 43), (0, 45), (0, 47), (0, 49), (0, 51), (0, 53), (0, 55)] sh) 41 42 16) ⟨by omega, by omega⟩) (by decide) zcal_X5_fillFrom zml_X6_45 (by decide : 41 < 57) ((zu_gt (by decide)).trans rfl : (zu 40 6 [(0, 41), (0, 43), (0, 45), (0, 47), (0, 49), (0, 51), (0, 53), (0, 55)] sh) 41 = (0, 5, [(0, 42)])) rfl (Nat.le_of_ble_eq_true rfl) rfl (hG.le (c := 16) (s := 148) (by decide) (by decide)) hO dX6_init_124 ?_
  refine zY.aload_n hO dX6_init_127 rfl ?_
  refine zY.getR zfl_X6_20 (by decide : 40 < 57) (zu_eq : (zu 40 6 [(0, 41), (0, 43), (0, 45), (0, 47), (0, 49), (0, 51), (0, 53), (0, 55)] sh) 40 = (0, 6, [(0, 41), (0, 43), (0, 45), (0, 47), (0, 49), (0, 51), (0, 53), (0, 55)])) rfl hO dX6_init_128 ?_
  refine zY.bipush hO dX6_init_131 (by decide) ?_
  refine zY.callV1vD (ct_X5_fill (⟨by decide, (zu_gt (by decide)).trans rfl, by decide, (zu_gt (by decide)).trans rfl, by decide⟩ : zRow 57 (zu 40 6 [(0, 41), (0, 43), (0, 45), (0, 47), (0, 49), (0, 51), (0, 53), (0, 55)] sh) 43 44 6)) (by decide) zcal_X5_fill zml_X6_48 (by decide : 43 < 57) ((zu_gt (by decide)).trans rfl : (zu 40 6 [(0, 41), (0, 43), (0, 45), (0, 47), (0, 49), (0, 51), (0, 53), (0, 55)] sh) 43 = (0, 5, [(0, 44)])) rfl (Nat.le_of_ble_eq_true rfl) rfl (hG.le (c := 16) (s := 148) (by decide) (by decide)) hO dX6_init_133 ?_
  refine zY.aload_n hO dX6_init_136 rfl ?_
  refine zY.getR zfl_X6_26 (by decide : 40 < 57) (zu_eq : (zu 40 6 [(0, 41), (0, 43), (0, 45), (0, 47), (0, 49), (0, 51), (0, 53), (0, 55)] sh) 40 = (0, 6, [(0, 41), (0, 43), (0, 45), (0, 47), (0, 49), (0, 51), (0, 53), (0, 55)])) rfl hO dX6_init_137 ?_
  refine zY.iconst hO dX6_init_140 ?_
  refine zY.callV1vD (ct_X5_fill (⟨by decide, (zu_gt (by decide)).trans rfl, by decide, (zu_gt (by decide)).trans rfl, by decide⟩ : zRow 57 (zu 40 6 [(0, 41), (0, 43), (0, 45), (0, 47), (0, 49), (0, 51), (0, 53), (0, 55)] sh) 47 48 10)) (by decide) zcal_X5_fill zml_X6_48 (by decide : 47 < 57) ((zu_gt (by decide)).trans rfl : (zu 40 6 [(0, 41), (0, 43), (0, 45), (0, 47), (0, 49), (0, 51), (0, 53), (0, 55)] sh) 47 = (0, 5, [(0, 48)])) rfl (Nat.le_of_ble_eq_true rfl) rfl (hG.le (c := 16) (s := 148) (by decide) (by decide)) hO dX6_init_141 ?_
  refine zY.aload_n hO dX6_init_144 rfl ?_
  refine zY.getR zfl_X6_29 (by decide : 40 < 57) (zu_eq : (zu 40 6 [(0, 41), (0, 43), (0, 45), (0, 47), (0, 49), (0, 51), (0, 53), (0, 55)] sh) 40 = (0, 6, [(0, 41), (0, 43), (0, 45), (0, 47), (0, 49), (0, 51), (0, 53), (0, 55)])) rfl hO dX6_init_145 ?_
  refine zY.bipush hO dX6_init_148 (by decide) ?_
  refine zY.callV1vD (ct_X5_fill (⟨by decide, (zu_gt (by decide)).trans rfl, by decide, (zu_gt (by decide)).trans rfl, by decide⟩ : zRow 57 (zu 40 6 [(0, 41), (0, 43), (0, 45), (0, 47), (0, 49), (0, 51), (0, 53), (0, 55)] sh) 49 50 10)) (by decide) zcal_X5_fill zml_X6_48 (by decide : 49 < 57) ((zu_gt (by decide)).trans rfl : (zu 40 6 [(0, 41), (0, 43), (0, 45), (0, 47), (0, 49), (0, 51), (0, 53), (0, 55)] sh) 49 = (0, 5, [(0, 50)])) rfl (Nat.le_of_ble_eq_true rfl) rfl (hG.le (c := 16) (s := 148) (by decide) (by decide)) hO dX6_init_150 ?_
  refine zY.aload_n hO dX6_init_153 rfl ?_
  refine zY.getR zfl_X6_38 (by decide : 40 < 57) (zu_eq : (zu 40 6 [(0, 41), (0, 43), (0, 45), (0, 47), (0, 49), (0, 51), (0, 53), (0, 55)] sh) 40 = (0, 6, [(0, 41), (0, 43), (0, 45), (0, 47), (0, 49), (0, 51), (0, 53), (0, 55)])) rfl hO dX6_init_154 ?_
  refine zY.bipush hO dX6_init_157 (by decide) ?_
  refine zY.callV1vD (ct_X5_fill (⟨by decide, (zu_gt (by decide)).trans rfl, by decide, (zu_gt (by decide)).trans rfl, by decide⟩ : zRow 57 (zu 40 6 [(0, 41), (0, 43), (0, 45), (0, 47), (0, 49), (0, 51), (0, 53), (0, 55)] sh) 55 56 6)) (by decide) zcal_X5_fill zml_X6_48 (by decide : 55 < 57) ((zu_gt (by decide)).trans rfl : (zu 40 6 [(0, 41), (0, 43), (0, 45), (0, 47), (0, 49), (0, 51), (0, 53), (0, 55)] sh) 55 = (0, 5, [(0, 56)])) rfl (Nat.le_of_ble_eq_true rfl) rfl (hG.le (c := 16) (s := 148) (by decide) (by decide)) hO dX6_init_159 ?_
  exact zY.cret rfl hR (by
        refine ⟨⟨fun w hw => ?_, fun s hs => ?_, ?_, ?_⟩, fun q hq => ?_⟩
        · simp [zrow, zwr, zD0, hw]
        · simp [zrow, zwr, zD0, hs]; omega
        · simp [zrow, zwr, zD0]
        · simp [zrow, zwr, zD0]
        · have h : ∀ m, 41 ≤ m → q ≠ m := fun m _ => by omega
          simp [zrow, zwr_ne, h]) had rfl (fun q _ => zu_zd rfl q) rfl rfl hO dX6_init_162

set_option maxRecDepth 100000 in
set_option maxHeartbeats 4000000 in
theorem cn_X3_18 {sh : Nat → zShc} {μ : zMem} (hs0 : zsok 18 sh)  : Cn kX3_init 4 19 (zu 18 3 [(3, 0), (1, 0)] sh) [zP 18] μ 21 (zd 18 sh) 2 15 (fun μ' => ((∀ j, μ' 20 j = 0) ∧ μ' 18 1 = 0) ∧ ∀ q, q < 18 → μ' q = μ q) := by
  refine Cn.of [some (zP 18)] rfl (Nat.le_of_ble_eq_true rfl) (by decide +kernel) rfl (fun Γ ad sz hO hG hN hR => ?_)
  have had : zag 19 ad ad := zag.rfl'
  have hk : ∀ q, q < 18 → μ q = μ q := fun _ _ => rfl
  refine zY.aload_n hO dX3_init_0 rfl ?_
  refine zY.objI zml_X3_3 (by decide) rfl (Nat.le_of_ble_eq_true rfl) hO dX3_init_1 ?_
  refine zY.aload_n hO dX3_init_4 rfl ?_
  refine zY.new (sh' := (zu 19 5 [(3, 0)] (zu 18 3 [(3, 0), (1, 0)] sh))) (n1 := 20) (c1 := 1) (s1 := 1) zkk_X3_9 hG had (by decide) (by decide) (zsok_zu hs0 (by decide) (by decide +kernel)) zu_eq (fun q h => zu_lt h) (zlwL_some (zlw_P (Or.inl (by decide))) zlwL_nil) (zlwS_cons (zlw_P (Or.inl (by decide))) zlwS_nil) rfl rfl rfl ⟨by decide, by decide⟩ hO dX3_init_5 (fun ad1 had => ?_)
  refine zY.dup rfl hO dX3_init_8 ?_
  refine zY.bipush hO dX3_init_9 (by decide) ?_
  refine zY.callI1 (n' := 21) (sh' := (zu 18 3 [(3, 0), (1, 0)] sh)) (c1 := 2) (s1 := 15) (cn_X5 zrw_19 rfl (zsok_zu hs0 (by decide) (by decide +kernel)) (len := 14) (by omega)) (by decide) zcal_X5_init rfl rfl zml_X3_11 (Nat.le_of_ble_eq_true rfl) rfl hG had (by decide) (fun q _ => zd_zu (by decide) q) (zlwL_some (zlw_P (Or.inl (by decide))) zlwL_nil) (zlwS_cons (zlw_P (Or.inl (by decide))) (zlwS_cons (zlw_P (Or.inl (by decide))) zlwS_nil)) rfl rfl ⟨by decide, by decide⟩ hO dX3_init_11 (fun ad2 μ2 had hq2 => ?_)
  have hk : ∀ q, q < 18 → μ2 q = μ q := fun q h => Eq.trans (b := μ q) (by rw [hq2, zrow_ne (by omega), zrow_ne (by omega)]) (hk q h)
  refine zY.putF (p := 18) (fl := [(3, 0), (1, 0)]) (fl' := [(0, 19), (1, 0)]) zFF_X3_14 hN (by decide) (by decide) rfl hO dX3_init_14 ?_
  refine zY.aload_n hO dX3_init_17 rfl ?_
  refine zY.iconst hO dX3_init_18 ?_
  refine zY.putI zfp_X3_20 (by decide : 18 < 21) (zu_eq : (zu 18 3 [(0, 19), (1, 0)] sh) 18 = (0, 3, [(0, 19), (1, 0)])) rfl hO dX3_init_19 ?_
  exact zY.cret rfl hR (⟨⟨fun j => by rw [zwr_ne (by decide), hq2, zrow_eq], by simp [zwr]⟩, fun q h => by rw [zwr_ne (by omega)]; exact hk q h⟩) had rfl (fun q _ => zu_zd rfl q) rfl rfl hO dX3_init_22

set_option maxRecDepth 100000 in
set_option maxHeartbeats 4000000 in
theorem cn_X2_21 {sh : Nat → zShc} {μ : zMem} (hs0 : zsok 21 sh)  : Cn kX2_init 8 22 (zu 21 2 [(3, 0), (1, 0)] sh) [zP 21] μ 39 (zd 21 sh) 17 156 (fun μ' => μ' 21 1 = 0 ∧ ∀ q, q < 21 → μ' q = μ q) := by
  refine Cn.of [some (zP 21)] rfl (Nat.le_of_ble_eq_true rfl) (by decide +kernel) rfl (fun Γ ad sz hO hG hN hR => ?_)
  have had : zag 22 ad ad := zag.rfl'
  have hk : ∀ q, q < 21 → μ q = μ q := fun _ _ => rfl
  refine zY.aload_n hO dX2_init_0 rfl ?_
  refine zY.objI zml_X2_1 (by decide) rfl (Nat.le_of_ble_eq_true rfl) hO dX2_init_1 ?_
  refine zY.aload_n hO dX2_init_4 rfl ?_
  refine zY.new (sh' := (zu 22 6 [(3, 0), (3, 0), (3, 0), (3, 0), (3, 0), (3, 0), (3, 0), (3, 0)] (zu 21 2 [(3, 0), (1, 0)] sh))) (n1 := 23) (c1 := 1) (s1 := 8) zkk_X2_7 hG had (by decide) (by decide) (zsok_zu hs0 (by decide) (by decide +kernel)) zu_eq (fun q h => zu_lt h) (zlwL_some (zlw_P (Or.inl (by decide))) zlwL_nil) (zlwS_cons (zlw_P (Or.inl (by decide))) zlwS_nil) rfl rfl rfl ⟨by decide, by decide⟩ hO dX2_init_5 (fun ad1 had => ?_)
  refine zY.dup rfl hO dX2_init_8 ?_
  refine zY.callI0 (n' := 39) (sh' := (zu 21 2 [(3, 0), (1, 0)] sh)) (c1 := 17) (s1 := 156) (cn_X6_22 (zsok_zu hs0 (by decide) (by decide +kernel))) (by decide) zcal_X6_init rfl rfl zml_X2_9 (Nat.le_of_ble_eq_true rfl) rfl hG had (by decide) (fun q _ => zd_zu (by decide) q) (zlwL_some (zlw_P (Or.inl (by decide))) zlwL_nil) (zlwS_cons (zlw_P (Or.inl (by decide))) (zlwS_cons (zlw_P (Or.inl (by decide))) zlwS_nil)) rfl rfl ⟨by decide, by decide⟩ hO dX2_init_9 (fun ad2 μ2 had hq2 => ?_)
  have hkq2 := hq2.2
  have hk : ∀ q, q < 21 → μ2 q = μ q := fun q h => Eq.trans (b := μ q) (by rw [hkq2 q (by omega), zrow_ne (by omega)]) (hk q h)
  refine zY.putF (p := 21) (fl := [(3, 0), (1, 0)]) (fl' := [(0, 22), (1, 0)]) zFF_X2_10 hN (by decide) (by decide) rfl hO dX2_init_12 ?_
  refine zY.aload_n hO dX2_init_15 rfl ?_
  refine zY.iconst hO dX2_init_16 ?_
  refine zY.putZ (by omega) zfp_X2_16 (by decide : 21 < 39) (zu_eq : (zu 21 2 [(0, 22), (1, 0)] sh) 21 = (0, 2, [(0, 22), (1, 0)])) rfl hO dX2_init_17 ?_
  exact zY.cret rfl hR (⟨by simp [zwr], fun q h => by rw [zwr_ne (by omega)]; exact hk q h⟩) had rfl (fun q _ => zu_zd rfl q) rfl rfl hO dX2_init_20

set_option maxRecDepth 100000 in
set_option maxHeartbeats 4000000 in
theorem cn_X2_39 {sh : Nat → zShc} {μ : zMem} (hs0 : zsok 39 sh)  : Cn kX2_init 8 40 (zu 39 2 [(3, 0), (1, 0)] sh) [zP 39] μ 57 (zd 39 sh) 17 156 (fun μ' => μ' 39 1 = 0 ∧ ∀ q, q < 39 → μ' q = μ q) := by
  refine Cn.of [some (zP 39)] rfl (Nat.le_of_ble_eq_true rfl) (by decide +kernel) rfl (fun Γ ad sz hO hG hN hR => ?_)
  have had : zag 40 ad ad := zag.rfl'
  have hk : ∀ q, q < 39 → μ q = μ q := fun _ _ => rfl
  refine zY.aload_n hO dX2_init_0 rfl ?_
  refine zY.objI zml_X2_1 (by decide) rfl (Nat.le_of_ble_eq_true rfl) hO dX2_init_1 ?_
  refine zY.aload_n hO dX2_init_4 rfl ?_
  refine zY.new (sh' := (zu 40 6 [(3, 0), (3, 0), (3, 0), (3, 0), (3, 0), (3, 0), (3, 0), (3, 0)] (zu 39 2 [(3, 0), (1, 0)] sh))) (n1 := 41) (c1 := 1) (s1 := 8) zkk_X2_7 hG had (by decide) (by decide) (zsok_zu hs0 (by decide) (by decide +kernel)) zu_eq (fun q h => zu_lt h) (zlwL_some (zlw_P (Or.inl (by decide))) zlwL_nil) (zlwS_cons (zlw_P (Or.inl (by decide))) zlwS_nil) rfl rfl rfl ⟨by decide, by decide⟩ hO dX2_init_5 (fun ad1 had => ?_)
  refine zY.dup rfl hO dX2_init_8 ?_
  refine zY.callI0 (n' := 57) (sh' := (zu 39 2 [(3, 0), (1, 0)] sh)) (c1 := 17) (s1 := 156) (cn_X6_40 (zsok_zu hs0 (by decide) (by decide +kernel))) (by decide) zcal_X6_init rfl rfl zml_X2_9 (Nat.le_of_ble_eq_true rfl) rfl hG had (by decide) (fun q _ => zd_zu (by decide) q) (zlwL_some (zlw_P (Or.inl (by decide))) zlwL_nil) (zlwS_cons (zlw_P (Or.inl (by decide))) (zlwS_cons (zlw_P (Or.inl (by decide))) zlwS_nil)) rfl rfl ⟨by decide, by decide⟩ hO dX2_init_9 (fun ad2 μ2 had hq2 => ?_)
  have hkq2 := hq2.2
  have hk : ∀ q, q < 39 → μ2 q = μ q := fun q h => Eq.trans (b := μ q) (by rw [hkq2 q (by omega), zrow_ne (by omega)]) (hk q h)
  refine zY.putF (p := 39) (fl := [(3, 0), (1, 0)]) (fl' := [(0, 40), (1, 0)]) zFF_X2_10 hN (by decide) (by decide) rfl hO dX2_init_12 ?_
  refine zY.aload_n hO dX2_init_15 rfl ?_
  refine zY.iconst hO dX2_init_16 ?_
  refine zY.putZ (by omega) zfp_X2_16 (by decide : 39 < 57) (zu_eq : (zu 39 2 [(0, 40), (1, 0)] sh) 39 = (0, 2, [(0, 40), (1, 0)])) rfl hO dX2_init_17 ?_
  exact zY.cret rfl hR (⟨by simp [zwr], fun q h => by rw [zwr_ne (by omega)]; exact hk q h⟩) had rfl (fun q _ => zu_zd rfl q) rfl rfl hO dX2_init_20

set_option maxRecDepth 100000 in
set_option maxHeartbeats 4000000 in
theorem cn_X9_62 {sh : Nat → zShc} {μ : zMem} (hs0 : zsok 62 sh)  : Cn kX9_init 6 63 (zu 62 9 [(3, 0), (3, 0), (3, 0), (3, 0), (1, 0)] sh) [zP 62] μ 77 (zd 62 sh) 14 134 (fun μ' => ∀ q, q < 62 → μ' q = μ q) := by
  refine Cn.of [some (zP 62)] rfl (Nat.le_of_ble_eq_true rfl) (by decide +kernel) rfl (fun Γ ad sz hO hG hN hR => ?_)
  have had : zag 63 ad ad := zag.rfl'
  have hk : ∀ q, q < 62 → μ q = μ q := fun _ _ => rfl
  refine zY.aload_n hO dX9_init_0 rfl ?_
  refine zY.objI zml_X9_3 (by decide) rfl (Nat.le_of_ble_eq_true rfl) hO dX9_init_1 ?_
  refine zY.aload_n hO dX9_init_4 rfl ?_
  refine zY.new (sh' := (zu 63 0 [(3, 0), (3, 0)] (zu 62 9 [(3, 0), (3, 0), (3, 0), (3, 0), (1, 0)] sh))) (n1 := 64) (c1 := 1) (s1 := 2) zkk_X9_9 hG had (by decide) (by decide) (zsok_zu hs0 (by decide) (by decide +kernel)) zu_eq (fun q h => zu_lt h) (zlwL_some (zlw_P (Or.inl (by decide))) zlwL_nil) (zlwS_cons (zlw_P (Or.inl (by decide))) zlwS_nil) rfl rfl rfl ⟨by decide, by decide⟩ hO dX9_init_5 (fun ad1 had => ?_)
  refine zY.dup rfl hO dX9_init_8 ?_
  refine zY.bipush hO dX9_init_9 (by decide) ?_
  refine zY.callI1 (n' := 68) (sh' := (zu 62 9 [(3, 0), (3, 0), (3, 0), (3, 0), (1, 0)] sh)) (c1 := 5) (s1 := 46) (cn_X0_63 (zsok_zu hs0 (by decide) (by decide +kernel)) (by omega)) (by decide) zcal_X0_init rfl rfl zml_X9_11 (Nat.le_of_ble_eq_true rfl) rfl hG had (by decide) (fun q _ => zd_zu (by decide) q) (zlwL_some (zlw_P (Or.inl (by decide))) zlwL_nil) (zlwS_cons (zlw_P (Or.inl (by decide))) (zlwS_cons (zlw_P (Or.inl (by decide))) zlwS_nil)) rfl rfl ⟨by decide, by decide⟩ hO dX9_init_11 (fun ad2 μ2 had hq2 => ?_)
  have hkq2 := hq2
  have hk : ∀ q, q < 62 → μ2 q = μ q := fun q h => Eq.trans (b := μ q) (by rw [hkq2 q (by omega), zrow_ne (by omega)]) (hk q h)
  refine zY.putF (p := 62) (fl := [(3, 0), (3, 0), (3, 0), (3, 0), (1, 0)]) (fl' := [(0, 63), (3, 0), (3, 0), (3, 0), (1, 0)]) zFF_X9_14 hN (by decide) (by decide) rfl hO dX9_init_14 ?_
  refine zY.aload_n hO dX9_init_17 rfl ?_
  refine zY.new (sh' := (zu 68 7 [(3, 0), (3, 0)] (zu 62 9 [(0, 63), (3, 0), (3, 0), (3, 0), (1, 0)] sh))) (n1 := 69) (c1 := 6) (s1 := 48) zkk_X9_20 hG had (by decide) (by decide) (zsok_zu hs0 (by decide) (by decide +kernel)) zu_eq (fun q h => zu_lt h) (zlwL_some (zlw_P (Or.inl (by decide))) zlwL_nil) (zlwS_cons (zlw_P (Or.inl (by decide))) zlwS_nil) rfl rfl rfl ⟨by decide, by decide⟩ hO dX9_init_18 (fun ad3 had => ?_)
  refine zY.dup rfl hO dX9_init_21 ?_
  refine zY.callIN0 (n' := 73) (sh' := (zu 62 9 [(0, 63), (3, 0), (3, 0), (3, 0), (1, 0)] sh)) (c1 := 10) (s1 := 62) (cn_X7_68 (zsok_zu hs0 (by decide) (by decide +kernel))) (by decide) zcal_X7_init rfl rfl zmn_X9_22 (Nat.le_of_ble_eq_true rfl) rfl hG had (by decide) (fun q _ => zd_zu (by decide) q) (zlwL_some (zlw_P (Or.inl (by decide))) zlwL_nil) (zlwS_cons (zlw_P (Or.inl (by decide))) (zlwS_cons (zlw_P (Or.inl (by decide))) zlwS_nil)) rfl rfl ⟨by decide, by decide⟩ hO dX9_init_22 (fun ad4 μ4 had hq4 => ?_)
  have hkq4 := hq4
  have hk : ∀ q, q < 62 → μ4 q = μ q := fun q h => Eq.trans (b := μ2 q) (by rw [hkq4 q (by omega), zrow_ne (by omega)]) (hk q h)
  refine zY.putF (p := 62) (fl := [(0, 63), (3, 0), (3, 0), (3, 0), (1, 0)]) (fl' := [(0, 63), (0, 68), (3, 0), (3, 0), (1, 0)]) zFF_X9_23 hN (by decide) (by decide) rfl hO dX9_init_25 ?_
  refine zY.aload_n hO dX9_init_28 rfl ?_
  refine zY.new (sh' := (zu 73 5 [(3, 0)] (zu 62 9 [(0, 63), (0, 68), (3, 0), (3, 0), (1, 0)] sh))) (n1 := 74) (c1 := 11) (s1 := 63) zkk_X9_27 hG had (by decide) (by decide) (zsok_zu hs0 (by decide) (by decide +kernel)) zu_eq (fun q h => zu_lt h) (zlwL_some (zlw_P (Or.inl (by decide))) zlwL_nil) (zlwS_cons (zlw_P (Or.inl (by decide))) zlwS_nil) rfl rfl rfl ⟨by decide, by decide⟩ hO dX9_init_29 (fun ad5 had => ?_)
  refine zY.dup rfl hO dX9_init_32 ?_
  refine zY.bipush hO dX9_init_33 (by decide) ?_
  refine zY.callI1 (n' := 75) (sh' := (zu 62 9 [(0, 63), (0, 68), (3, 0), (3, 0), (1, 0)] sh)) (c1 := 12) (s1 := 69) (cn_X5 zrw_73 rfl (zsok_zu hs0 (by decide) (by decide +kernel)) (len := 6) (by omega)) (by decide) zcal_X5_init rfl rfl zml_X9_29 (Nat.le_of_ble_eq_true rfl) rfl hG had (by decide) (fun q _ => zd_zu (by decide) q) (zlwL_some (zlw_P (Or.inl (by decide))) zlwL_nil) (zlwS_cons (zlw_P (Or.inl (by decide))) (zlwS_cons (zlw_P (Or.inl (by decide))) zlwS_nil)) rfl rfl ⟨by decide, by decide⟩ hO dX9_init_35 (fun ad6 μ6 had hq6 => ?_)
  have hk : ∀ q, q < 62 → μ6 q = μ q := fun q h => Eq.trans (b := μ4 q) (by rw [hq6, zrow_ne (by omega), zrow_ne (by omega)]) (hk q h)
  refine zY.putF (p := 62) (fl := [(0, 63), (0, 68), (3, 0), (3, 0), (1, 0)]) (fl' := [(0, 63), (0, 68), (0, 73), (3, 0), (1, 0)]) zFF_X9_30 hN (by decide) (by decide) rfl hO dX9_init_38 ?_
  refine zY.aload_n hO dX9_init_41 rfl ?_
  refine zY.new (sh' := (zu 75 5 [(3, 0)] (zu 62 9 [(0, 63), (0, 68), (0, 73), (3, 0), (1, 0)] sh))) (n1 := 76) (c1 := 13) (s1 := 70) zkk_X9_27 hG had (by decide) (by decide) (zsok_zu hs0 (by decide) (by decide +kernel)) zu_eq (fun q h => zu_lt h) (zlwL_some (zlw_P (Or.inl (by decide))) zlwL_nil) (zlwS_cons (zlw_P (Or.inl (by decide))) zlwS_nil) rfl rfl rfl ⟨by decide, by decide⟩ hO dX9_init_42 (fun ad7 had => ?_)
  refine zY.dup rfl hO dX9_init_45 ?_
  refine zY.bipush hO dX9_init_46 (by decide) ?_
  refine zY.callI1 (n' := 77) (sh' := (zu 62 9 [(0, 63), (0, 68), (0, 73), (3, 0), (1, 0)] sh)) (c1 := 14) (s1 := 134) (cn_X5 zrw_75 rfl (zsok_zu hs0 (by decide) (by decide +kernel)) (len := 64) (by omega)) (by decide) zcal_X5_init rfl rfl zml_X9_29 (Nat.le_of_ble_eq_true rfl) rfl hG had (by decide) (fun q _ => zd_zu (by decide) q) (zlwL_some (zlw_P (Or.inl (by decide))) zlwL_nil) (zlwS_cons (zlw_P (Or.inl (by decide))) (zlwS_cons (zlw_P (Or.inl (by decide))) zlwS_nil)) rfl rfl ⟨by decide, by decide⟩ hO dX9_init_48 (fun ad8 μ8 had hq8 => ?_)
  have hk : ∀ q, q < 62 → μ8 q = μ q := fun q h => Eq.trans (b := μ6 q) (by rw [hq8, zrow_ne (by omega), zrow_ne (by omega)]) (hk q h)
  refine zY.putF (p := 62) (fl := [(0, 63), (0, 68), (0, 73), (3, 0), (1, 0)]) (fl' := [(0, 63), (0, 68), (0, 73), (0, 75), (1, 0)]) zFF_X9_34 hN (by decide) (by decide) rfl hO dX9_init_51 ?_
  refine zY.aload_n hO dX9_init_54 rfl ?_
  refine zY.iconst hO dX9_init_55 ?_
  refine zY.putI zfp_X9_37 (by decide : 62 < 77) (zu_eq : (zu 62 9 [(0, 63), (0, 68), (0, 73), (0, 75), (1, 0)] sh) 62 = (0, 9, [(0, 63), (0, 68), (0, 73), (0, 75), (1, 0)])) rfl hO dX9_init_56 ?_
  exact zY.cret rfl hR (fun q h => by rw [zwr_ne (by omega)]; exact hk q h) had rfl (fun q _ => zu_zd rfl q) rfl rfl hO dX9_init_59

set_option maxRecDepth 100000 in
set_option maxHeartbeats 4000000 in
theorem cn_X8_77 {sh : Nat → zShc} {μ : zMem} (hs0 : zsok 77 sh)  : Cn kX8_init 6 78 (zu 77 8 [(3, 0), (3, 0), (3, 0), (3, 0), (3, 0), (3, 0), (1, 0)] sh) [zP 77] μ 96 (zd 77 sh) 18 90 (fun μ' => ∀ q, q < 77 → μ' q = μ q) := by
  refine Cn.of [some (zP 77)] rfl (Nat.le_of_ble_eq_true rfl) (by decide +kernel) rfl (fun Γ ad sz hO hG hN hR => ?_)
  have had : zag 78 ad ad := zag.rfl'
  have hk : ∀ q, q < 77 → μ q = μ q := fun _ _ => rfl
  refine zY.aload_n hO dX8_init_0 rfl ?_
  refine zY.objI zml_X8_3 (by decide) rfl (Nat.le_of_ble_eq_true rfl) hO dX8_init_1 ?_
  refine zY.aload_n hO dX8_init_4 rfl ?_
  refine zY.new (sh' := (zu 78 0 [(3, 0), (3, 0)] (zu 77 8 [(3, 0), (3, 0), (3, 0), (3, 0), (3, 0), (3, 0), (1, 0)] sh))) (n1 := 79) (c1 := 1) (s1 := 2) zkk_X8_9 hG had (by decide) (by decide) (zsok_zu hs0 (by decide) (by decide +kernel)) zu_eq (fun q h => zu_lt h) (zlwL_some (zlw_P (Or.inl (by decide))) zlwL_nil) (zlwS_cons (zlw_P (Or.inl (by decide))) zlwS_nil) rfl rfl rfl ⟨by decide, by decide⟩ hO dX8_init_5 (fun ad1 had => ?_)
  refine zY.dup rfl hO dX8_init_8 ?_
  refine zY.bipush hO dX8_init_9 (by decide) ?_
  refine zY.callI1 (n' := 83) (sh' := (zu 77 8 [(3, 0), (3, 0), (3, 0), (3, 0), (3, 0), (3, 0), (1, 0)] sh)) (c1 := 5) (s1 := 46) (cn_X0_78 (zsok_zu hs0 (by decide) (by decide +kernel)) (by omega)) (by decide) zcal_X0_init rfl rfl zml_X8_11 (Nat.le_of_ble_eq_true rfl) rfl hG had (by decide) (fun q _ => zd_zu (by decide) q) (zlwL_some (zlw_P (Or.inl (by decide))) zlwL_nil) (zlwS_cons (zlw_P (Or.inl (by decide))) (zlwS_cons (zlw_P (Or.inl (by decide))) zlwS_nil)) rfl rfl ⟨by decide, by decide⟩ hO dX8_init_11 (fun ad2 μ2 had hq2 => ?_)
  have hkq2 := hq2
  have hk : ∀ q, q < 77 → μ2 q = μ q := fun q h => Eq.trans (b := μ q) (by rw [hkq2 q (by omega), zrow_ne (by omega)]) (hk q h)
  refine zY.putF (p := 77) (fl := [(3, 0), (3, 0), (3, 0), (3, 0), (3, 0), (3, 0), (1, 0)]) (fl' := [(0, 78), (3, 0), (3, 0), (3, 0), (3, 0), (3, 0), (1, 0)]) zFF_X8_14 hN (by decide) (by decide) rfl hO dX8_init_14 ?_
  refine zY.aload_n hO dX8_init_17 rfl ?_
  refine zY.new (sh' := (zu 83 7 [(3, 0), (3, 0)] (zu 77 8 [(0, 78), (3, 0), (3, 0), (3, 0), (3, 0), (3, 0), (1, 0)] sh))) (n1 := 84) (c1 := 6) (s1 := 48) zkk_X8_20 hG had (by decide) (by decide) (zsok_zu hs0 (by decide) (by decide +kernel)) zu_eq (fun q h => zu_lt h) (zlwL_some (zlw_P (Or.inl (by decide))) zlwL_nil) (zlwS_cons (zlw_P (Or.inl (by decide))) zlwS_nil) rfl rfl rfl ⟨by decide, by decide⟩ hO dX8_init_18 (fun ad3 had => ?_)
  refine zY.dup rfl hO dX8_init_21 ?_
  refine zY.callIN0 (n' := 88) (sh' := (zu 77 8 [(0, 78), (3, 0), (3, 0), (3, 0), (3, 0), (3, 0), (1, 0)] sh)) (c1 := 10) (s1 := 62) (cn_X7_83 (zsok_zu hs0 (by decide) (by decide +kernel))) (by decide) zcal_X7_init rfl rfl zmn_X8_22 (Nat.le_of_ble_eq_true rfl) rfl hG had (by decide) (fun q _ => zd_zu (by decide) q) (zlwL_some (zlw_P (Or.inl (by decide))) zlwL_nil) (zlwS_cons (zlw_P (Or.inl (by decide))) (zlwS_cons (zlw_P (Or.inl (by decide))) zlwS_nil)) rfl rfl ⟨by decide, by decide⟩ hO dX8_init_22 (fun ad4 μ4 had hq4 => ?_)
  have hkq4 := hq4
  have hk : ∀ q, q < 77 → μ4 q = μ q := fun q h => Eq.trans (b := μ2 q) (by rw [hkq4 q (by omega), zrow_ne (by omega)]) (hk q h)
  refine zY.putF (p := 77) (fl := [(0, 78), (3, 0), (3, 0), (3, 0), (3, 0), (3, 0), (1, 0)]) (fl' := [(0, 78), (0, 83), (3, 0), (3, 0), (3, 0), (3, 0), (1, 0)]) zFF_X8_23 hN (by decide) (by decide) rfl hO dX8_init_25 ?_
  refine zY.aload_n hO dX8_init_28 rfl ?_
  refine zY.new (sh' := (zu 88 5 [(3, 0)] (zu 77 8 [(0, 78), (0, 83), (3, 0), (3, 0), (3, 0), (3, 0), (1, 0)] sh))) (n1 := 89) (c1 := 11) (s1 := 63) zkk_X8_27 hG had (by decide) (by decide) (zsok_zu hs0 (by decide) (by decide +kernel)) zu_eq (fun q h => zu_lt h) (zlwL_some (zlw_P (Or.inl (by decide))) zlwL_nil) (zlwS_cons (zlw_P (Or.inl (by decide))) zlwS_nil) rfl rfl rfl ⟨by decide, by decide⟩ hO dX8_init_29 (fun ad5 had => ?_)
  refine zY.dup rfl hO dX8_init_32 ?_
  refine zY.bipush hO dX8_init_33 (by decide) ?_
  refine zY.callI1 (n' := 90) (sh' := (zu 77 8 [(0, 78), (0, 83), (3, 0), (3, 0), (3, 0), (3, 0), (1, 0)] sh)) (c1 := 12) (s1 := 69) (cn_X5 zrw_88 rfl (zsok_zu hs0 (by decide) (by decide +kernel)) (len := 6) (by omega)) (by decide) zcal_X5_init rfl rfl zml_X8_29 (Nat.le_of_ble_eq_true rfl) rfl hG had (by decide) (fun q _ => zd_zu (by decide) q) (zlwL_some (zlw_P (Or.inl (by decide))) zlwL_nil) (zlwS_cons (zlw_P (Or.inl (by decide))) (zlwS_cons (zlw_P (Or.inl (by decide))) zlwS_nil)) rfl rfl ⟨by decide, by decide⟩ hO dX8_init_35 (fun ad6 μ6 had hq6 => ?_)
  have hk : ∀ q, q < 77 → μ6 q = μ q := fun q h => Eq.trans (b := μ4 q) (by rw [hq6, zrow_ne (by omega), zrow_ne (by omega)]) (hk q h)
  refine zY.putF (p := 77) (fl := [(0, 78), (0, 83), (3, 0), (3, 0), (3, 0), (3, 0), (1, 0)]) (fl' := [(0, 78), (0, 83), (0, 88), (3, 0), (3, 0), (3, 0), (1, 0)]) zFF_X8_30 hN (by decide) (by decide) rfl hO dX8_init_38 ?_
  refine zY.aload_n hO dX8_init_41 rfl ?_
  refine zY.new (sh' := (zu 90 5 [(3, 0)] (zu 77 8 [(0, 78), (0, 83), (0, 88), (3, 0), (3, 0), (3, 0), (1, 0)] sh))) (n1 := 91) (c1 := 13) (s1 := 70) zkk_X8_27 hG had (by decide) (by decide) (zsok_zu hs0 (by decide) (by decide +kernel)) zu_eq (fun q h => zu_lt h) (zlwL_some (zlw_P (Or.inl (by decide))) zlwL_nil) (zlwS_cons (zlw_P (Or.inl (by decide))) zlwS_nil) rfl rfl rfl ⟨by decide, by decide⟩ hO dX8_init_42 (fun ad7 had => ?_)
  refine zY.dup rfl hO dX8_init_45 ?_
  refine zY.bipush hO dX8_init_46 (by decide) ?_
  refine zY.callI1 (n' := 92) (sh' := (zu 77 8 [(0, 78), (0, 83), (0, 88), (3, 0), (3, 0), (3, 0), (1, 0)] sh)) (c1 := 14) (s1 := 76) (cn_X5 zrw_90 rfl (zsok_zu hs0 (by decide) (by decide +kernel)) (len := 6) (by omega)) (by decide) zcal_X5_init rfl rfl zml_X8_29 (Nat.le_of_ble_eq_true rfl) rfl hG had (by decide) (fun q _ => zd_zu (by decide) q) (zlwL_some (zlw_P (Or.inl (by decide))) zlwL_nil) (zlwS_cons (zlw_P (Or.inl (by decide))) (zlwS_cons (zlw_P (Or.inl (by decide))) zlwS_nil)) rfl rfl ⟨by decide, by decide⟩ hO dX8_init_48 (fun ad8 μ8 had hq8 => ?_)
  have hk : ∀ q, q < 77 → μ8 q = μ q := fun q h => Eq.trans (b := μ6 q) (by rw [hq8, zrow_ne (by omega), zrow_ne (by omega)]) (hk q h)
  refine zY.putF (p := 77) (fl := [(0, 78), (0, 83), (0, 88), (3, 0), (3, 0), (3, 0), (1, 0)]) (fl' := [(0, 78), (0, 83), (0, 88), (0, 90), (3, 0), (3, 0), (1, 0)]) zFF_X8_34 hN (by decide) (by decide) rfl hO dX8_init_51 ?_
  refine zY.aload_n hO dX8_init_54 rfl ?_
  refine zY.new (sh' := (zu 92 5 [(3, 0)] (zu 77 8 [(0, 78), (0, 83), (0, 88), (0, 90), (3, 0), (3, 0), (1, 0)] sh))) (n1 := 93) (c1 := 15) (s1 := 77) zkk_X8_27 hG had (by decide) (by decide) (zsok_zu hs0 (by decide) (by decide +kernel)) zu_eq (fun q h => zu_lt h) (zlwL_some (zlw_P (Or.inl (by decide))) zlwL_nil) (zlwS_cons (zlw_P (Or.inl (by decide))) zlwS_nil) rfl rfl rfl ⟨by decide, by decide⟩ hO dX8_init_55 (fun ad9 had => ?_)
  refine zY.dup rfl hO dX8_init_58 ?_
  refine zY.bipush hO dX8_init_59 (by decide) ?_
  refine zY.callI1 (n' := 94) (sh' := (zu 77 8 [(0, 78), (0, 83), (0, 88), (0, 90), (3, 0), (3, 0), (1, 0)] sh)) (c1 := 16) (s1 := 83) (cn_X5 zrw_92 rfl (zsok_zu hs0 (by decide) (by decide +kernel)) (len := 6) (by omega)) (by decide) zcal_X5_init rfl rfl zml_X8_29 (Nat.le_of_ble_eq_true rfl) rfl hG had (by decide) (fun q _ => zd_zu (by decide) q) (zlwL_some (zlw_P (Or.inl (by decide))) zlwL_nil) (zlwS_cons (zlw_P (Or.inl (by decide))) (zlwS_cons (zlw_P (Or.inl (by decide))) zlwS_nil)) rfl rfl ⟨by decide, by decide⟩ hO dX8_init_61 (fun ad10 μ10 had hq10 => ?_)
  have hk : ∀ q, q < 77 → μ10 q = μ q := fun q h => Eq.trans (b := μ8 q) (by rw [hq10, zrow_ne (by omega), zrow_ne (by omega)]) (hk q h)
  refine zY.putF (p := 77) (fl := [(0, 78), (0, 83), (0, 88), (0, 90), (3, 0), (3, 0), (1, 0)]) (fl' := [(0, 78), (0, 83), (0, 88), (0, 90), (0, 92), (3, 0), (1, 0)]) zFF_X8_37 hN (by decide) (by decide) rfl hO dX8_init_64 ?_
  refine zY.aload_n hO dX8_init_67 rfl ?_
  refine zY.new (sh' := (zu 94 5 [(3, 0)] (zu 77 8 [(0, 78), (0, 83), (0, 88), (0, 90), (0, 92), (3, 0), (1, 0)] sh))) (n1 := 95) (c1 := 17) (s1 := 84) zkk_X8_27 hG had (by decide) (by decide) (zsok_zu hs0 (by decide) (by decide +kernel)) zu_eq (fun q h => zu_lt h) (zlwL_some (zlw_P (Or.inl (by decide))) zlwL_nil) (zlwS_cons (zlw_P (Or.inl (by decide))) zlwS_nil) rfl rfl rfl ⟨by decide, by decide⟩ hO dX8_init_68 (fun ad11 had => ?_)
  refine zY.dup rfl hO dX8_init_71 ?_
  refine zY.bipush hO dX8_init_72 (by decide) ?_
  refine zY.callI1 (n' := 96) (sh' := (zu 77 8 [(0, 78), (0, 83), (0, 88), (0, 90), (0, 92), (3, 0), (1, 0)] sh)) (c1 := 18) (s1 := 90) (cn_X5 zrw_94 rfl (zsok_zu hs0 (by decide) (by decide +kernel)) (len := 6) (by omega)) (by decide) zcal_X5_init rfl rfl zml_X8_29 (Nat.le_of_ble_eq_true rfl) rfl hG had (by decide) (fun q _ => zd_zu (by decide) q) (zlwL_some (zlw_P (Or.inl (by decide))) zlwL_nil) (zlwS_cons (zlw_P (Or.inl (by decide))) (zlwS_cons (zlw_P (Or.inl (by decide))) zlwS_nil)) rfl rfl ⟨by decide, by decide⟩ hO dX8_init_74 (fun ad12 μ12 had hq12 => ?_)
  have hk : ∀ q, q < 77 → μ12 q = μ q := fun q h => Eq.trans (b := μ10 q) (by rw [hq12, zrow_ne (by omega), zrow_ne (by omega)]) (hk q h)
  refine zY.putF (p := 77) (fl := [(0, 78), (0, 83), (0, 88), (0, 90), (0, 92), (3, 0), (1, 0)]) (fl' := [(0, 78), (0, 83), (0, 88), (0, 90), (0, 92), (0, 94), (1, 0)]) zFF_X8_40 hN (by decide) (by decide) rfl hO dX8_init_77 ?_
  refine zY.aload_n hO dX8_init_80 rfl ?_
  refine zY.iconst hO dX8_init_81 ?_
  refine zY.putI zfp_X8_43 (by decide : 77 < 96) (zu_eq : (zu 77 8 [(0, 78), (0, 83), (0, 88), (0, 90), (0, 92), (0, 94), (1, 0)] sh) 77 = (0, 8, [(0, 78), (0, 83), (0, 88), (0, 90), (0, 92), (0, 94), (1, 0)])) rfl hO dX8_init_82 ?_
  exact zY.cret rfl hR (fun q h => by rw [zwr_ne (by omega)]; exact hk q h) had rfl (fun q _ => zu_zd rfl q) rfl rfl hO dX8_init_85

set_option maxRecDepth 100000 in
set_option maxHeartbeats 4000000 in
theorem cn_X4_110 {sh : Nat → zShc} {μ : zMem} (hs0 : zsok 110 sh)  : Cn kX4_init 6 111 (zu 110 4 [(3, 0), (3, 0), (3, 0), (3, 0), (3, 0), (1, 0), (1, 0)] sh) [zP 110] μ 127 (zd 110 sh) 16 126 (fun μ' => ∀ q, q < 110 → μ' q = μ q) := by
  refine Cn.of [some (zP 110)] rfl (Nat.le_of_ble_eq_true rfl) (by decide +kernel) rfl (fun Γ ad sz hO hG hN hR => ?_)
  have had : zag 111 ad ad := zag.rfl'
  have hk : ∀ q, q < 110 → μ q = μ q := fun _ _ => rfl
  refine zY.aload_n hO dX4_init_0 rfl ?_
  refine zY.objI zml_X4_3 (by decide) rfl (Nat.le_of_ble_eq_true rfl) hO dX4_init_1 ?_
  refine zY.aload_n hO dX4_init_4 rfl ?_
  refine zY.new (sh' := (zu 111 0 [(3, 0), (3, 0)] (zu 110 4 [(3, 0), (3, 0), (3, 0), (3, 0), (3, 0), (1, 0), (1, 0)] sh))) (n1 := 112) (c1 := 1) (s1 := 2) zkk_X4_9 hG had (by decide) (by decide) (zsok_zu hs0 (by decide) (by decide +kernel)) zu_eq (fun q h => zu_lt h) (zlwL_some (zlw_P (Or.inl (by decide))) zlwL_nil) (zlwS_cons (zlw_P (Or.inl (by decide))) zlwS_nil) rfl rfl rfl ⟨by decide, by decide⟩ hO dX4_init_5 (fun ad1 had => ?_)
  refine zY.dup rfl hO dX4_init_8 ?_
  refine zY.bipush hO dX4_init_9 (by decide) ?_
  refine zY.callI1 (n' := 116) (sh' := (zu 110 4 [(3, 0), (3, 0), (3, 0), (3, 0), (3, 0), (1, 0), (1, 0)] sh)) (c1 := 5) (s1 := 46) (cn_X0_111 (zsok_zu hs0 (by decide) (by decide +kernel)) (by omega)) (by decide) zcal_X0_init rfl rfl zml_X4_11 (Nat.le_of_ble_eq_true rfl) rfl hG had (by decide) (fun q _ => zd_zu (by decide) q) (zlwL_some (zlw_P (Or.inl (by decide))) zlwL_nil) (zlwS_cons (zlw_P (Or.inl (by decide))) (zlwS_cons (zlw_P (Or.inl (by decide))) zlwS_nil)) rfl rfl ⟨by decide, by decide⟩ hO dX4_init_11 (fun ad2 μ2 had hq2 => ?_)
  have hkq2 := hq2
  have hk : ∀ q, q < 110 → μ2 q = μ q := fun q h => Eq.trans (b := μ q) (by rw [hkq2 q (by omega), zrow_ne (by omega)]) (hk q h)
  refine zY.putF (p := 110) (fl := [(3, 0), (3, 0), (3, 0), (3, 0), (3, 0), (1, 0), (1, 0)]) (fl' := [(0, 111), (3, 0), (3, 0), (3, 0), (3, 0), (1, 0), (1, 0)]) zFF_X4_14 hN (by decide) (by decide) rfl hO dX4_init_14 ?_
  refine zY.aload_n hO dX4_init_17 rfl ?_
  refine zY.new (sh' := (zu 116 7 [(3, 0), (3, 0)] (zu 110 4 [(0, 111), (3, 0), (3, 0), (3, 0), (3, 0), (1, 0), (1, 0)] sh))) (n1 := 117) (c1 := 6) (s1 := 48) zkk_X4_20 hG had (by decide) (by decide) (zsok_zu hs0 (by decide) (by decide +kernel)) zu_eq (fun q h => zu_lt h) (zlwL_some (zlw_P (Or.inl (by decide))) zlwL_nil) (zlwS_cons (zlw_P (Or.inl (by decide))) zlwS_nil) rfl rfl rfl ⟨by decide, by decide⟩ hO dX4_init_18 (fun ad3 had => ?_)
  refine zY.dup rfl hO dX4_init_21 ?_
  refine zY.callIN0 (n' := 121) (sh' := (zu 110 4 [(0, 111), (3, 0), (3, 0), (3, 0), (3, 0), (1, 0), (1, 0)] sh)) (c1 := 10) (s1 := 62) (cn_X7_116 (zsok_zu hs0 (by decide) (by decide +kernel))) (by decide) zcal_X7_init rfl rfl zmn_X4_22 (Nat.le_of_ble_eq_true rfl) rfl hG had (by decide) (fun q _ => zd_zu (by decide) q) (zlwL_some (zlw_P (Or.inl (by decide))) zlwL_nil) (zlwS_cons (zlw_P (Or.inl (by decide))) (zlwS_cons (zlw_P (Or.inl (by decide))) zlwS_nil)) rfl rfl ⟨by decide, by decide⟩ hO dX4_init_22 (fun ad4 μ4 had hq4 => ?_)
  have hkq4 := hq4
  have hk : ∀ q, q < 110 → μ4 q = μ q := fun q h => Eq.trans (b := μ2 q) (by rw [hkq4 q (by omega), zrow_ne (by omega)]) (hk q h)
  refine zY.putF (p := 110) (fl := [(0, 111), (3, 0), (3, 0), (3, 0), (3, 0), (1, 0), (1, 0)]) (fl' := [(0, 111), (0, 116), (3, 0), (3, 0), (3, 0), (1, 0), (1, 0)]) zFF_X4_23 hN (by decide) (by decide) rfl hO dX4_init_25 ?_
  refine zY.aload_n hO dX4_init_28 rfl ?_
  refine zY.new (sh' := (zu 121 5 [(3, 0)] (zu 110 4 [(0, 111), (0, 116), (3, 0), (3, 0), (3, 0), (1, 0), (1, 0)] sh))) (n1 := 122) (c1 := 11) (s1 := 63) zkk_X4_27 hG had (by decide) (by decide) (zsok_zu hs0 (by decide) (by decide +kernel)) zu_eq (fun q h => zu_lt h) (zlwL_some (zlw_P (Or.inl (by decide))) zlwL_nil) (zlwS_cons (zlw_P (Or.inl (by decide))) zlwS_nil) rfl rfl rfl ⟨by decide, by decide⟩ hO dX4_init_29 (fun ad5 had => ?_)
  refine zY.dup rfl hO dX4_init_32 ?_
  refine zY.bipush hO dX4_init_33 (by decide) ?_
  refine zY.callI1 (n' := 123) (sh' := (zu 110 4 [(0, 111), (0, 116), (3, 0), (3, 0), (3, 0), (1, 0), (1, 0)] sh)) (c1 := 12) (s1 := 69) (cn_X5 zrw_121 rfl (zsok_zu hs0 (by decide) (by decide +kernel)) (len := 6) (by omega)) (by decide) zcal_X5_init rfl rfl zml_X4_29 (Nat.le_of_ble_eq_true rfl) rfl hG had (by decide) (fun q _ => zd_zu (by decide) q) (zlwL_some (zlw_P (Or.inl (by decide))) zlwL_nil) (zlwS_cons (zlw_P (Or.inl (by decide))) (zlwS_cons (zlw_P (Or.inl (by decide))) zlwS_nil)) rfl rfl ⟨by decide, by decide⟩ hO dX4_init_35 (fun ad6 μ6 had hq6 => ?_)
  have hk : ∀ q, q < 110 → μ6 q = μ q := fun q h => Eq.trans (b := μ4 q) (by rw [hq6, zrow_ne (by omega), zrow_ne (by omega)]) (hk q h)
  refine zY.putF (p := 110) (fl := [(0, 111), (0, 116), (3, 0), (3, 0), (3, 0), (1, 0), (1, 0)]) (fl' := [(0, 111), (0, 116), (0, 121), (3, 0), (3, 0), (1, 0), (1, 0)]) zFF_X4_30 hN (by decide) (by decide) rfl hO dX4_init_38 ?_
  refine zY.aload_n hO dX4_init_41 rfl ?_
  refine zY.new (sh' := (zu 123 5 [(3, 0)] (zu 110 4 [(0, 111), (0, 116), (0, 121), (3, 0), (3, 0), (1, 0), (1, 0)] sh))) (n1 := 124) (c1 := 13) (s1 := 70) zkk_X4_27 hG had (by decide) (by decide) (zsok_zu hs0 (by decide) (by decide +kernel)) zu_eq (fun q h => zu_lt h) (zlwL_some (zlw_P (Or.inl (by decide))) zlwL_nil) (zlwS_cons (zlw_P (Or.inl (by decide))) zlwS_nil) rfl rfl rfl ⟨by decide, by decide⟩ hO dX4_init_42 (fun ad7 had => ?_)
  refine zY.dup rfl hO dX4_init_45 ?_
  refine zY.bipush hO dX4_init_46 (by decide) ?_
  refine zY.callI1 (n' := 125) (sh' := (zu 110 4 [(0, 111), (0, 116), (0, 121), (3, 0), (3, 0), (1, 0), (1, 0)] sh)) (c1 := 14) (s1 := 76) (cn_X5 zrw_123 rfl (zsok_zu hs0 (by decide) (by decide +kernel)) (len := 6) (by omega)) (by decide) zcal_X5_init rfl rfl zml_X4_29 (Nat.le_of_ble_eq_true rfl) rfl hG had (by decide) (fun q _ => zd_zu (by decide) q) (zlwL_some (zlw_P (Or.inl (by decide))) zlwL_nil) (zlwS_cons (zlw_P (Or.inl (by decide))) (zlwS_cons (zlw_P (Or.inl (by decide))) zlwS_nil)) rfl rfl ⟨by decide, by decide⟩ hO dX4_init_48 (fun ad8 μ8 had hq8 => ?_)
  have hk : ∀ q, q < 110 → μ8 q = μ q := fun q h => Eq.trans (b := μ6 q) (by rw [hq8, zrow_ne (by omega), zrow_ne (by omega)]) (hk q h)
  refine zY.putF (p := 110) (fl := [(0, 111), (0, 116), (0, 121), (3, 0), (3, 0), (1, 0), (1, 0)]) (fl' := [(0, 111), (0, 116), (0, 121), (0, 123), (3, 0), (1, 0), (1, 0)]) zFF_X4_34 hN (by decide) (by decide) rfl hO dX4_init_51 ?_
  refine zY.aload_n hO dX4_init_54 rfl ?_
  refine zY.new (sh' := (zu 125 5 [(3, 0)] (zu 110 4 [(0, 111), (0, 116), (0, 121), (0, 123), (3, 0), (1, 0), (1, 0)] sh))) (n1 := 126) (c1 := 15) (s1 := 77) zkk_X4_27 hG had (by decide) (by decide) (zsok_zu hs0 (by decide) (by decide +kernel)) zu_eq (fun q h => zu_lt h) (zlwL_some (zlw_P (Or.inl (by decide))) zlwL_nil) (zlwS_cons (zlw_P (Or.inl (by decide))) zlwS_nil) rfl rfl rfl ⟨by decide, by decide⟩ hO dX4_init_55 (fun ad9 had => ?_)
  refine zY.dup rfl hO dX4_init_58 ?_
  refine zY.bipush hO dX4_init_59 (by decide) ?_
  refine zY.callI1 (n' := 127) (sh' := (zu 110 4 [(0, 111), (0, 116), (0, 121), (0, 123), (3, 0), (1, 0), (1, 0)] sh)) (c1 := 16) (s1 := 126) (cn_X5 zrw_125 rfl (zsok_zu hs0 (by decide) (by decide +kernel)) (len := 49) (by omega)) (by decide) zcal_X5_init rfl rfl zml_X4_29 (Nat.le_of_ble_eq_true rfl) rfl hG had (by decide) (fun q _ => zd_zu (by decide) q) (zlwL_some (zlw_P (Or.inl (by decide))) zlwL_nil) (zlwS_cons (zlw_P (Or.inl (by decide))) (zlwS_cons (zlw_P (Or.inl (by decide))) zlwS_nil)) rfl rfl ⟨by decide, by decide⟩ hO dX4_init_61 (fun ad10 μ10 had hq10 => ?_)
  have hk : ∀ q, q < 110 → μ10 q = μ q := fun q h => Eq.trans (b := μ8 q) (by rw [hq10, zrow_ne (by omega), zrow_ne (by omega)]) (hk q h)
  refine zY.putF (p := 110) (fl := [(0, 111), (0, 116), (0, 121), (0, 123), (3, 0), (1, 0), (1, 0)]) (fl' := [(0, 111), (0, 116), (0, 121), (0, 123), (0, 125), (1, 0), (1, 0)]) zFF_X4_37 hN (by decide) (by decide) rfl hO dX4_init_64 ?_
  refine zY.aload_n hO dX4_init_67 rfl ?_
  refine zY.iconst hO dX4_init_68 ?_
  refine zY.putI zfp_X4_40 (by decide : 110 < 127) (zu_eq : (zu 110 4 [(0, 111), (0, 116), (0, 121), (0, 123), (0, 125), (1, 0), (1, 0)] sh) 110 = (0, 4, [(0, 111), (0, 116), (0, 121), (0, 123), (0, 125), (1, 0), (1, 0)])) rfl hO dX4_init_69 ?_
  refine zY.aload_n hO dX4_init_72 rfl ?_
  refine zY.iconst hO dX4_init_73 ?_
  refine zY.putI zfp_X4_44 (by decide : 110 < 127) (zu_eq : (zu 110 4 [(0, 111), (0, 116), (0, 121), (0, 123), (0, 125), (1, 0), (1, 0)] sh) 110 = (0, 4, [(0, 111), (0, 116), (0, 121), (0, 123), (0, 125), (1, 0), (1, 0)])) rfl hO dX4_init_74 ?_
  exact zY.cret rfl hR (fun q h => by rw [zwr_ne (by omega), zwr_ne (by omega)]; exact hk q h) had rfl (fun q _ => zu_zd rfl q) rfl rfl hO dX4_init_77
