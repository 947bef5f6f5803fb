/-! rules of the light layer: comparisons, fields, arrays -/
theorem zr_eq {a b : Int} (ha : zr a) (hb : zr b) : Int32.ofInt a = Int32.ofInt b ↔ a = b := by
  constructor
  · intro h
    have h1 := congrArg Int32.toInt h
    rwa [Int32.toInt_ofInt_of_le ha.1 (by have := ha.2; omega), Int32.toInt_ofInt_of_le hb.1 (by have := hb.2; omega)] at h1
  · intro h
    rw [h]
theorem zr_lt {a b : Int} (ha : zr a) (hb : zr b) : Int32.ofInt a < Int32.ofInt b ↔ a < b := Int32.ofInt_lt_iff_lt (by exact ha.1) (by exact ha.2) (by exact hb.1) (by exact hb.2)
theorem zr_le {a b : Int} (ha : zr a) (hb : zr b) : Int32.ofInt a ≤ Int32.ofInt b ↔ a ≤ b := Int32.ofInt_le_iff_le (by exact ha.1) (by exact ha.2) (by exact hb.1) (by exact hb.2)
theorem zr_0 : zr 0 := by constructor <;> decide
theorem zr_clamp {a : Int} (h0 : 0 ≤ a) (h1 : a < 2147483648) : (Int32.ofInt a).toNatClampNeg = a.toNat := Int32.toNatClampNeg_ofInt_of_le (by omega) (by omega)
theorem zr_in {a : Int} {n : Nat} (h0 : 0 ≤ a) (h1 : a < n) (hn : n ≤ 100000) : vp_in (Int32.ofInt a) n := by
  have ha : zr a := ⟨by omega, by omega⟩
  rintro (h | h)
  · have := (zr_lt ha zr_0).mp h
    omega
  · rw [zr_clamp h0 (by omega)] at h
    omega
section ZR2
variable {Γ : zCx} {ω : zOm} {k : zMth} {d pc : Nat} {lv : List (Option Value)} {st : List Value} {μ : zMem}
theorem zY.icmp_eq {a b off : Int} {tgt : Nat} (ra : zr a) (rb : zr b) (hO : zok Γ k d) (hd : decode k.2.1 pc = .ok (.if_icmp .eq off, 3)) (ht : (pc : Int) + off = (tgt : Int)) (kt : a = b → zY Γ ω tgt lv st μ) (kf : ¬ a = b → zY Γ ω (pc + 3) lv st μ) : zY Γ ω pc lv (zI b :: zI a :: st) μ :=
  fun H locs ls hW hS hL => lv_icmp_eq hO.1 hO.2.1 hd ht (fun h => kt ((zr_eq ra rb).mp h) H locs ls hW hS hL) (fun h => kf (fun z => h ((zr_eq ra rb).mpr z)) H locs ls hW hS hL)
theorem zY.icmp_ne {a b off : Int} {tgt : Nat} (ra : zr a) (rb : zr b) (hO : zok Γ k d) (hd : decode k.2.1 pc = .ok (.if_icmp .ne off, 3)) (ht : (pc : Int) + off = (tgt : Int)) (kt : ¬ a = b → zY Γ ω tgt lv st μ) (kf : a = b → zY Γ ω (pc + 3) lv st μ) : zY Γ ω pc lv (zI b :: zI a :: st) μ :=
  fun H locs ls hW hS hL => lv_icmp_ne hO.1 hO.2.1 hd ht (fun h => kt (fun z => h ((zr_eq ra rb).mpr z)) H locs ls hW hS hL) (fun h => kf ((zr_eq ra rb).mp h) H locs ls hW hS hL)
theorem zY.icmp_lt {a b off : Int} {tgt : Nat} (ra : zr a) (rb : zr b) (hO : zok Γ k d) (hd : decode k.2.1 pc = .ok (.if_icmp .lt off, 3)) (ht : (pc : Int) + off = (tgt : Int)) (kt : a < b → zY Γ ω tgt lv st μ) (kf : ¬ a < b → zY Γ ω (pc + 3) lv st μ) : zY Γ ω pc lv (zI b :: zI a :: st) μ :=
  fun H locs ls hW hS hL => lv_icmp_lt hO.1 hO.2.1 hd ht (fun h => kt ((zr_lt ra rb).mp h) H locs ls hW hS hL) (fun h => kf (fun z => h ((zr_lt ra rb).mpr z)) H locs ls hW hS hL)
theorem zY.icmp_ge {a b off : Int} {tgt : Nat} (ra : zr a) (rb : zr b) (hO : zok Γ k d) (hd : decode k.2.1 pc = .ok (.if_icmp .ge off, 3)) (ht : (pc : Int) + off = (tgt : Int)) (kt : b ≤ a → zY Γ ω tgt lv st μ) (kf : ¬ b ≤ a → zY Γ ω (pc + 3) lv st μ) : zY Γ ω pc lv (zI b :: zI a :: st) μ :=
  fun H locs ls hW hS hL => lv_icmp_ge hO.1 hO.2.1 hd ht (fun h => kt ((zr_le rb ra).mp h) H locs ls hW hS hL) (fun h => kf (fun z => h ((zr_le rb ra).mpr z)) H locs ls hW hS hL)
theorem zY.icmp_gt {a b off : Int} {tgt : Nat} (ra : zr a) (rb : zr b) (hO : zok Γ k d) (hd : decode k.2.1 pc = .ok (.if_icmp .gt off, 3)) (ht : (pc : Int) + off = (tgt : Int)) (kt : b < a → zY Γ ω tgt lv st μ) (kf : ¬ b < a → zY Γ ω (pc + 3) lv st μ) : zY Γ ω pc lv (zI b :: zI a :: st) μ :=
  fun H locs ls hW hS hL => lv_icmp_gt hO.1 hO.2.1 hd ht (fun h => kt ((zr_lt rb ra).mp h) H locs ls hW hS hL) (fun h => kf (fun z => h ((zr_lt rb ra).mpr z)) H locs ls hW hS hL)
theorem zY.icmp_le {a b off : Int} {tgt : Nat} (ra : zr a) (rb : zr b) (hO : zok Γ k d) (hd : decode k.2.1 pc = .ok (.if_icmp .le off, 3)) (ht : (pc : Int) + off = (tgt : Int)) (kt : a ≤ b → zY Γ ω tgt lv st μ) (kf : ¬ a ≤ b → zY Γ ω (pc + 3) lv st μ) : zY Γ ω pc lv (zI b :: zI a :: st) μ :=
  fun H locs ls hW hS hL => lv_icmp_le hO.1 hO.2.1 hd ht (fun h => kt ((zr_le ra rb).mp h) H locs ls hW hS hL) (fun h => kf (fun z => h ((zr_le ra rb).mpr z)) H locs ls hW hS hL)
theorem zY.if_eq {a off : Int} {tgt : Nat} (ra : zr a) (hO : zok Γ k d) (hd : decode k.2.1 pc = .ok (.ifCond .eq off, 3)) (ht : (pc : Int) + off = (tgt : Int)) (kt : a = 0 → zY Γ ω tgt lv st μ) (kf : ¬ a = 0 → zY Γ ω (pc + 3) lv st μ) : zY Γ ω pc lv (zI a :: st) μ :=
  fun H locs ls hW hS hL => lv_if_eq hO.1 hO.2.1 hd ht (fun h => kt ((zr_eq ra zr_0).mp h) H locs ls hW hS hL) (fun h => kf (fun z => h ((zr_eq ra zr_0).mpr z)) H locs ls hW hS hL)
theorem zY.if_ne {a off : Int} {tgt : Nat} (ra : zr a) (hO : zok Γ k d) (hd : decode k.2.1 pc = .ok (.ifCond .ne off, 3)) (ht : (pc : Int) + off = (tgt : Int)) (kt : ¬ a = 0 → zY Γ ω tgt lv st μ) (kf : a = 0 → zY Γ ω (pc + 3) lv st μ) : zY Γ ω pc lv (zI a :: st) μ :=
  fun H locs ls hW hS hL => lv_if_ne hO.1 hO.2.1 hd ht (fun h => kt (fun z => h ((zr_eq ra zr_0).mpr z)) H locs ls hW hS hL) (fun h => kf ((zr_eq ra zr_0).mp h) H locs ls hW hS hL)
theorem zY.if_lt {a off : Int} {tgt : Nat} (ra : zr a) (hO : zok Γ k d) (hd : decode k.2.1 pc = .ok (.ifCond .lt off, 3)) (ht : (pc : Int) + off = (tgt : Int)) (kt : a < 0 → zY Γ ω tgt lv st μ) (kf : ¬ a < 0 → zY Γ ω (pc + 3) lv st μ) : zY Γ ω pc lv (zI a :: st) μ :=
  fun H locs ls hW hS hL => lv_if_lt hO.1 hO.2.1 hd ht (fun h => kt ((zr_lt ra zr_0).mp h) H locs ls hW hS hL) (fun h => kf (fun z => h ((zr_lt ra zr_0).mpr z)) H locs ls hW hS hL)
theorem zY.if_ge {a off : Int} {tgt : Nat} (ra : zr a) (hO : zok Γ k d) (hd : decode k.2.1 pc = .ok (.ifCond .ge off, 3)) (ht : (pc : Int) + off = (tgt : Int)) (kt : 0 ≤ a → zY Γ ω tgt lv st μ) (kf : ¬ 0 ≤ a → zY Γ ω (pc + 3) lv st μ) : zY Γ ω pc lv (zI a :: st) μ :=
  fun H locs ls hW hS hL => lv_if_ge hO.1 hO.2.1 hd ht (fun h => kt ((zr_le zr_0 ra).mp h) H locs ls hW hS hL) (fun h => kf (fun z => h ((zr_le zr_0 ra).mpr z)) H locs ls hW hS hL)
theorem zY.if_gt {a off : Int} {tgt : Nat} (ra : zr a) (hO : zok Γ k d) (hd : decode k.2.1 pc = .ok (.ifCond .gt off, 3)) (ht : (pc : Int) + off = (tgt : Int)) (kt : 0 < a → zY Γ ω tgt lv st μ) (kf : ¬ 0 < a → zY Γ ω (pc + 3) lv st μ) : zY Γ ω pc lv (zI a :: st) μ :=
  fun H locs ls hW hS hL => lv_if_gt hO.1 hO.2.1 hd ht (fun h => kt ((zr_lt zr_0 ra).mp h) H locs ls hW hS hL) (fun h => kf (fun z => h ((zr_lt zr_0 ra).mpr z)) H locs ls hW hS hL)
theorem zY.if_le {a off : Int} {tgt : Nat} (ra : zr a) (hO : zok Γ k d) (hd : decode k.2.1 pc = .ok (.ifCond .le off, 3)) (ht : (pc : Int) + off = (tgt : Int)) (kt : a ≤ 0 → zY Γ ω tgt lv st μ) (kf : ¬ a ≤ 0 → zY Γ ω (pc + 3) lv st μ) : zY Γ ω pc lv (zI a :: st) μ :=
  fun H locs ls hW hS hL => lv_if_le hO.1 hO.2.1 hd ht (fun h => kt ((zr_le ra zr_0).mp h) H locs ls hW hS hL) (fun h => kf (fun z => h ((zr_le ra zr_0).mpr z)) H locs ls hW hS hL)
/-! fields -/
def zFL (own : String) (idx ci kf : Nat) : Prop := ∃ (C : String) (T : u_T) (N : Nat), vwCl[ci]? = some (C, T, N) ∧ kf < N ∧ Cond.fieldLink own idx C (T kf).2.1 (T kf).2.2.1 ∈ zT ∧ (T kf).1 = C ∧ ∀ w ∈ u_ws C T N, w ∈ zT
def zFP (own : String) (idx ci kf : Nat) (ty : FieldType) : Prop := ∃ (C : String) (T : u_T) (N : Nat) (ty0 : Nat → FieldType), vwCl[ci]? = some (C, T, N) ∧ kf < N ∧ Cond.fieldLink own idx C (T kf).2.1 (T kf).2.2.1 ∈ zT ∧ (T kf).1 = C ∧ (∀ w ∈ u_ws C T N, w ∈ zT) ∧ (∀ k, k < N → parseFieldDescriptor (T k).2.2.1 = some (ty0 k)) ∧ (∀ a, a < N → ∀ b, b < N → a ≠ b → (T a).2.1 ≠ (T b).2.1) ∧ (T kf).2.2.2 = false ∧ parseFieldDescriptor (T kf).2.2.1 = some ty
theorem zce_0 {cc : zC3} {ad : Nat → Nat} {s : zShc} {f : Nat → Int} {ci : Nat} {fl : List (Nat × Nat)} (h : s = (0, ci, fl)) : zce cc ad s f = .inr (ci, zfs ad fl f) := by subst h; rfl
theorem zce_1 {cc : zC3} {ad : Nat → Nat} {s : zShc} {f : Nat → Int} {n : Nat} {fl : List (Nat × Nat)} (h : s = (1, n, fl)) : zce cc ad s f = .inl (cc.1, (n, .inl (fun j => Int32.ofInt (f j)))) := by subst h; rfl
theorem zce_2 {cc : zC3} {ad : Nat → Nat} {s : zShc} {f : Nat → Int} {n : Nat} {fl : List (Nat × Nat)} (h : s = (2, n, fl)) : zce cc ad s f = .inl (cc.2.1, (n, .inr (.inl (fun j => Int64.ofInt (f j))))) := by subst h; rfl
theorem zce_3 {cc : zC3} {ad : Nat → Nat} {s : zShc} {f : Nat → Int} {n : Nat} {fl : List (Nat × Nat)} (h : s = (3, n, fl)) : zce cc ad s f = .inl (cc.2.2, (n, .inl (fun j => Int32.ofInt (f j)))) := by subst h; rfl
theorem zY.getG {idx ci kf q : Nat} {fl : List (Nat × Nat)} {t : Nat × Nat} {v : Value} (hO : zok Γ k d) (hF : zFL k.1.cls idx ci kf) (hq : q < ω.1) (hs : ω.2.1 q = (0, ci, fl)) (hf : fl[kf]? = some t) (hv : zfv ω.2.2.1 t (μ q kf) = zcv ω.2.2.1 v) (hd : decode k.2.1 pc = .ok (.getfield idx, 3)) (kk : zY Γ ω (pc + 3) lv (v :: st) μ) : zY Γ ω pc lv (zP q :: st) μ := by
  intro H locs ls hW hS hL
  obtain ⟨C, T, N, h1, h2, h3, h4, h5⟩ := hF
  have he := zwl_get (cc := Γ.2.2.2.1) (sh := ω.2.1) (ad := ω.2.2.1) (μ := μ) hq
  rw [zce_0 hs] at he
  refine va_get (v := zcv ω.2.2.1 v) hO.1 hO.2.1 hO.2.2.2.2.1 h5 hO.2.2.2.1 hO.2.2.2.2.2.1.1 hW.1 q he h1 kf h2 (hO.2.2.2.2.1 _ h3) (fun x hx => by rw [h4] at hx; exact hx) ?_ hd (kk H locs ls hW hS hL)
  rw [zfs_get hf, hv]
theorem zY.getI {idx ci kf q x : Nat} {fl : List (Nat × Nat)} (hF : zFL k.1.cls idx ci kf) (hq : q < ω.1) (hs : ω.2.1 q = (0, ci, fl)) (hf : fl[kf]? = some (1, x)) (hO : zok Γ k d) (hd : decode k.2.1 pc = .ok (.getfield idx, 3)) (kk : zY Γ ω (pc + 3) lv (zI (μ q kf) :: st) μ) : zY Γ ω pc lv (zP q :: st) μ := zY.getG hO hF hq hs hf rfl hd kk
theorem zY.getJ {idx ci kf q x : Nat} {fl : List (Nat × Nat)} (hF : zFL k.1.cls idx ci kf) (hq : q < ω.1) (hs : ω.2.1 q = (0, ci, fl)) (hf : fl[kf]? = some (2, x)) (hO : zok Γ k d) (hd : decode k.2.1 pc = .ok (.getfield idx, 3)) (kk : zY Γ ω (pc + 3) lv (zJ (μ q kf) :: st) μ) : zY Γ ω pc lv (zP q :: st) μ := zY.getG hO hF hq hs hf rfl hd kk
theorem zY.getR {idx ci kf q q' : Nat} {fl : List (Nat × Nat)} (hF : zFL k.1.cls idx ci kf) (hq : q < ω.1) (hs : ω.2.1 q = (0, ci, fl)) (hf : fl[kf]? = some (0, q')) (hO : zok Γ k d) (hd : decode k.2.1 pc = .ok (.getfield idx, 3)) (kk : zY Γ ω (pc + 3) lv (zP q' :: st) μ) : zY Γ ω pc lv (zP q :: st) μ := zY.getG hO hF hq hs hf rfl hd kk
theorem zY.putG {idx ci kf q : Nat} {fl : List (Nat × Nat)} {t : Nat × Nat} {ty : FieldType} {v : Value} {a : Int} (hO : zok Γ k d) (hF : zFP k.1.cls idx ci kf ty) (hq : q < ω.1) (hs : ω.2.1 q = (0, ci, fl)) (hf : fl[kf]? = some t) (hv : zfv ω.2.2.1 t a = zcv ω.2.2.1 v) (hn : narrow ty (zcv ω.2.2.1 v) = zcv ω.2.2.1 v) (hfit : fits ty (zcv ω.2.2.1 v) = true) (hd : decode k.2.1 pc = .ok (.putfield idx, 3)) (kk : zY Γ ω (pc + 3) lv st (zwr μ q kf a)) : zY Γ ω pc lv (v :: zP q :: st) μ := by
  intro H locs ls hW hS hL
  obtain ⟨C, T, N, ty0, h1, h2, h3, h4, h5, h6, h7, h8, h9⟩ := hF
  have he := zwl_get (cc := Γ.2.2.2.1) (sh := ω.2.1) (ad := ω.2.2.1) (μ := μ) hq
  rw [zce_0 hs] at he
  have hkf : kf < fl.length := (List.getElem?_eq_some_iff.mp hf).1
  refine va_put (v := zcv ω.2.2.1 v) hO.1 hO.2.1 hO.2.2.2.2.1 h5 ty0 h6 h7 hO.2.2.2.1 hO.2.2.2.2.2.1.1 hW.1 hW.2 hS q he h1 kf h2 (hO.2.2.2.2.1 _ h3) (fun x hx => by rw [h4] at hx; exact hx) h8 h9 hn hfit (by rw [zfs_len]; exact hkf) hd (fun H1 locs1 hP1 hD1 hS1 => ?_)
  have hset : (zwl Γ.2.2.2.1 ω.1 ω.2.1 ω.2.2.1 μ).set q (ω.2.2.1 q, .inr (ci, (zfs ω.2.2.1 fl (μ q)).set kf (zcv ω.2.2.1 v))) = zwl Γ.2.2.2.1 ω.1 ω.2.1 ω.2.2.1 (zwr μ q kf a) := by
    refine zwl_set hq ?_ (fun j hj => zwr_ne hj)
    rw [zce_0 hs]
    rw [zfs_set (f' := zwr μ q kf a q) hf (by simp [zwr]; exact hv) (fun j hj => by simp [zwr, hj])]
  rw [hset] at hP1 hD1
  exact kk H1 locs1 ls ⟨hP1, hD1⟩ hS1 hL
theorem zY.putI {idx ci kf q x : Nat} {fl : List (Nat × Nat)} {a : Int} (hF : zFP k.1.cls idx ci kf .int) (hq : q < ω.1) (hs : ω.2.1 q = (0, ci, fl)) (hf : fl[kf]? = some (1, x)) (hO : zok Γ k d) (hd : decode k.2.1 pc = .ok (.putfield idx, 3)) (kk : zY Γ ω (pc + 3) lv st (zwr μ q kf a)) : zY Γ ω pc lv (zI a :: zP q :: st) μ := zY.putG hO hF hq hs hf rfl rfl rfl hd kk
theorem zY.putJ {idx ci kf q x : Nat} {fl : List (Nat × Nat)} {a : Int} (hF : zFP k.1.cls idx ci kf .long) (hq : q < ω.1) (hs : ω.2.1 q = (0, ci, fl)) (hf : fl[kf]? = some (2, x)) (hO : zok Γ k d) (hd : decode k.2.1 pc = .ok (.putfield idx, 3)) (kk : zY Γ ω (pc + 3) lv st (zwr μ q kf a)) : zY Γ ω pc lv (zJ a :: zP q :: st) μ := zY.putG hO hF hq hs hf rfl rfl rfl hd kk
theorem zY.putZ {idx ci kf q x : Nat} {fl : List (Nat × Nat)} {a : Int} (ha : a = 0 ∨ a = 1) (hF : zFP k.1.cls idx ci kf .boolean) (hq : q < ω.1) (hs : ω.2.1 q = (0, ci, fl)) (hf : fl[kf]? = some (1, x)) (hO : zok Γ k d) (hd : decode k.2.1 pc = .ok (.putfield idx, 3)) (kk : zY Γ ω (pc + 3) lv st (zwr μ q kf a)) : zY Γ ω pc lv (zI a :: zP q :: st) μ := by
  refine zY.putG hO hF hq hs hf rfl ?_ ?_ hd kk
  · rcases ha with rfl | rfl <;> rfl
  · rcases ha with rfl | rfl <;> rfl
/-! arrays -/
theorem zY.iald (j : Nat) {q n : Nat} {i : Int} {fl : List (Nat × Nat)} (hj : i = (j : Int)) (hjn : j < n) (hn : n ≤ 100000) (hq : q < ω.1) (hs : ω.2.1 q = (1, n, fl)) (hO : zok Γ k d) (hd : decode k.2.1 pc = .ok (.iaload, 1)) (kk : zY Γ ω (pc + 1) lv (zI (μ q j) :: st) μ) : zY Γ ω pc lv (zI i :: zP q :: st) μ := by
  intro H locs ls hW hS hL
  have he := zwl_get (cc := Γ.2.2.2.1) (sh := ω.2.1) (ad := ω.2.2.1) (μ := μ) hq
  rw [zce_1 hs] at he
  have hc : (Int32.ofInt i).toNatClampNeg = j := by rw [zr_clamp (by omega) (by omega)]; omega
  refine va_iald hO.1 hO.2.1 hO.2.2.2.2.2.1.1 hW.1 q 0 he rfl (zr_in (by omega) (by omega) hn) hd ?_
  rw [hc]
  exact kk H locs ls hW hS hL
theorem zY.zald (j : Nat) {q n : Nat} {i : Int} {fl : List (Nat × Nat)} (hj : i = (j : Int)) (hjn : j < n) (hn : n ≤ 100000) (hq : q < ω.1) (hs : ω.2.1 q = (3, n, fl)) (hO : zok Γ k d) (hd : decode k.2.1 pc = .ok (.baload, 1)) (kk : zY Γ ω (pc + 1) lv (zI (μ q j) :: st) μ) : zY Γ ω pc lv (zI i :: zP q :: st) μ := by
  intro H locs ls hW hS hL
  have he := zwl_get (cc := Γ.2.2.2.1) (sh := ω.2.1) (ad := ω.2.2.1) (μ := μ) hq
  rw [zce_3 hs] at he
  have hc : (Int32.ofInt i).toNatClampNeg = j := by rw [zr_clamp (by omega) (by omega)]; omega
  refine va_zald hO.1 hO.2.1 hO.2.2.2.2.2.1.1 hW.1 q 2 he rfl (zr_in (by omega) (by omega) hn) hd ?_
  rw [hc]
  exact kk H locs ls hW hS hL
theorem zY.lald (j : Nat) {q n : Nat} {i : Int} {fl : List (Nat × Nat)} (hj : i = (j : Int)) (hjn : j < n) (hn : n ≤ 100000) (hq : q < ω.1) (hs : ω.2.1 q = (2, n, fl)) (hO : zok Γ k d) (hd : decode k.2.1 pc = .ok (.laload, 1)) (kk : zY Γ ω (pc + 1) lv (zJ (μ q j) :: st) μ) : zY Γ ω pc lv (zI i :: zP q :: st) μ := by
  intro H locs ls hW hS hL
  have he := zwl_get (cc := Γ.2.2.2.1) (sh := ω.2.1) (ad := ω.2.2.1) (μ := μ) hq
  rw [zce_2 hs] at he
  have hc : (Int32.ofInt i).toNatClampNeg = j := by rw [zr_clamp (by omega) (by omega)]; omega
  refine va_lald hO.1 hO.2.1 hO.2.2.2.2.2.1.1 hW.1 q 1 he rfl (zr_in (by omega) (by omega) hn) hd ?_
  rw [hc]
  exact kk H locs ls hW hS hL
theorem zY.iast (j : Nat) {q n : Nat} {i a : Int} {fl : List (Nat × Nat)} (hj : i = (j : Int)) (hjn : j < n) (hn : n ≤ 100000) (hq : q < ω.1) (hs : ω.2.1 q = (1, n, fl)) (hO : zok Γ k d) (hd : decode k.2.1 pc = .ok (.iastore, 1)) (kk : zY Γ ω (pc + 1) lv st (zwr μ q j a)) : zY Γ ω pc lv (zI a :: zI i :: zP q :: st) μ := by
  intro H locs ls hW hS hL
  have he := zwl_get (cc := Γ.2.2.2.1) (sh := ω.2.1) (ad := ω.2.2.1) (μ := μ) hq
  rw [zce_1 hs] at he
  have hc : (Int32.ofInt i).toNatClampNeg = j := by rw [zr_clamp (by omega) (by omega)]; omega
  refine va_iast hO.1 hO.2.1 hO.2.2.2.2.2.1.1 hW.1 hW.2 hS q 0 he rfl (zr_in (by omega) (by omega) hn) hd (fun H1 locs1 hP1 hD1 hS1 => ?_)
  rw [hc] at hP1 hD1
  have hset : (zwl Γ.2.2.2.1 ω.1 ω.2.1 ω.2.2.1 μ).set q (ω.2.2.1 q, .inl (Γ.2.2.2.1.1, (n, .inl (upd (fun j => Int32.ofInt (μ q j)) j (Int32.ofInt a))))) = zwl Γ.2.2.2.1 ω.1 ω.2.1 ω.2.2.1 (zwr μ q j a) := by
    refine zwl_set hq ?_ (fun j hj => zwr_ne hj)
    rw [zce_1 hs]
    have : (fun i => Int32.ofInt (zwr μ q j a q i)) = upd (fun i => Int32.ofInt (μ q i)) j (Int32.ofInt a) := by
      funext i
      by_cases hi : i = j <;> simp [zwr, upd, hi]
    rw [this]
  rw [hset] at hP1 hD1
  exact kk H1 locs1 ls ⟨hP1, hD1⟩ hS1 hL
theorem zY.zast (j : Nat) {q n : Nat} {i a : Int} {fl : List (Nat × Nat)} (ha : a = 0 ∨ a = 1) (hj : i = (j : Int)) (hjn : j < n) (hn : n ≤ 100000) (hq : q < ω.1) (hs : ω.2.1 q = (3, n, fl)) (hO : zok Γ k d) (hd : decode k.2.1 pc = .ok (.bastore, 1)) (kk : zY Γ ω (pc + 1) lv st (zwr μ q j a)) : zY Γ ω pc lv (zI a :: zI i :: zP q :: st) μ := by
  intro H locs ls hW hS hL
  have he := zwl_get (cc := Γ.2.2.2.1) (sh := ω.2.1) (ad := ω.2.2.1) (μ := μ) hq
  rw [zce_3 hs] at he
  have hc : (Int32.ofInt i).toNatClampNeg = j := by rw [zr_clamp (by omega) (by omega)]; omega
  have hnar : vp_nar .boolean (Int32.ofInt a) = Int32.ofInt a := by rcases ha with rfl | rfl <;> rfl
  refine va_zast hO.1 hO.2.1 hO.2.2.2.2.2.1.1 hW.1 hW.2 hS q 2 he rfl (zr_in (by omega) (by omega) hn) hd (fun H1 locs1 hP1 hD1 hS1 => ?_)
  rw [hc, hnar] at hP1 hD1
  have hset : (zwl Γ.2.2.2.1 ω.1 ω.2.1 ω.2.2.1 μ).set q (ω.2.2.1 q, .inl (Γ.2.2.2.1.2.2, (n, .inl (upd (fun j => Int32.ofInt (μ q j)) j (Int32.ofInt a))))) = zwl Γ.2.2.2.1 ω.1 ω.2.1 ω.2.2.1 (zwr μ q j a) := by
    refine zwl_set hq ?_ (fun j hj => zwr_ne hj)
    rw [zce_3 hs]
    have : (fun i => Int32.ofInt (zwr μ q j a q i)) = upd (fun i => Int32.ofInt (μ q i)) j (Int32.ofInt a) := by
      funext i
      by_cases hi : i = j <;> simp [zwr, upd, hi]
    rw [this]
  rw [hset] at hP1 hD1
  exact kk H1 locs1 ls ⟨hP1, hD1⟩ hS1 hL
theorem zY.last (j : Nat) {q n : Nat} {i a : Int} {fl : List (Nat × Nat)} (hj : i = (j : Int)) (hjn : j < n) (hn : n ≤ 100000) (hq : q < ω.1) (hs : ω.2.1 q = (2, n, fl)) (hO : zok Γ k d) (hd : decode k.2.1 pc = .ok (.lastore, 1)) (kk : zY Γ ω (pc + 1) lv st (zwr μ q j a)) : zY Γ ω pc lv (zJ a :: zI i :: zP q :: st) μ := by
  intro H locs ls hW hS hL
  have he := zwl_get (cc := Γ.2.2.2.1) (sh := ω.2.1) (ad := ω.2.2.1) (μ := μ) hq
  rw [zce_2 hs] at he
  have hc : (Int32.ofInt i).toNatClampNeg = j := by rw [zr_clamp (by omega) (by omega)]; omega
  refine va_last hO.1 hO.2.1 hO.2.2.2.2.2.1.1 hW.1 hW.2 hS q 1 he rfl (zr_in (by omega) (by omega) hn) hd (fun H1 locs1 hP1 hD1 hS1 => ?_)
  rw [hc] at hP1 hD1
  have hset : (zwl Γ.2.2.2.1 ω.1 ω.2.1 ω.2.2.1 μ).set q (ω.2.2.1 q, .inl (Γ.2.2.2.1.2.1, (n, .inr (.inl (vp_updL (fun j => Int64.ofInt (μ q j)) j (Int64.ofInt a)))))) = zwl Γ.2.2.2.1 ω.1 ω.2.1 ω.2.2.1 (zwr μ q j a) := by
    refine zwl_set hq ?_ (fun j hj => zwr_ne hj)
    rw [zce_2 hs]
    have : (fun i => Int64.ofInt (zwr μ q j a q i)) = vp_updL (fun i => Int64.ofInt (μ q i)) j (Int64.ofInt a) := by
      funext i
      by_cases hi : i = j <;> simp [zwr, vp_updL, hi]
    rw [this]
  rw [hset] at hP1 hD1
  exact kk H1 locs1 ls ⟨hP1, hD1⟩ hS1 hL
theorem zY.alen {q n : Nat} {fl : List (Nat × Nat)} (hq : q < ω.1) (hs : ω.2.1 q = (1, n, fl) ∨ ω.2.1 q = (2, n, fl)) (hO : zok Γ k d) (hd : decode k.2.1 pc = .ok (.arraylength, 1)) (kk : zY Γ ω (pc + 1) lv (zI (n : Int) :: st) μ) : zY Γ ω pc lv (zP q :: st) μ := by
  intro H locs ls hW hS hL
  have he := zwl_get (cc := Γ.2.2.2.1) (sh := ω.2.1) (ad := ω.2.2.1) (μ := μ) hq
  rcases hs with hs | hs
  · rw [zce_1 hs] at he
    exact va_alen (v := Int32.ofInt (n : Int)) hO.1 hO.2.1 hO.2.2.2.2.2.1.1 hW.1 q 0 he rfl Int32.ofInt_eq_ofNat.symm hd (kk H locs ls hW hS hL)
  · rw [zce_2 hs] at he
    exact va_alen (v := Int32.ofInt (n : Int)) hO.1 hO.2.1 hO.2.2.2.2.2.1.1 hW.1 q 1 he rfl Int32.ofInt_eq_ofNat.symm hd (kk H locs ls hW hS hL)
end ZR2
