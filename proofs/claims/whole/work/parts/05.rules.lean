/-! rules of the light layer, an instruction each -/
theorem zLv.toHas {ad : Nat → Nat} {ls : Array Slot} {lv : List (Option Value)} (h : zLv ad ls lv) (l : List (Nat × Value)) (hl : ∀ q ∈ l, ∃ v, lv[q.1]? = some (some v) ∧ q.2 = zcv ad v) : lv_has ls lv.length l := by
  refine ⟨h.1, h.2.1, fun q hq => ?_⟩
  obtain ⟨v, h1, h2⟩ := hl q hq
  rw [h2]
  exact h.2.2 q.1 v h1
def zal (ad : Nat → Nat) (lv : List (Option Value)) : List (Nat × Value) := lv.zipIdx.filterMap (fun p => p.1.map (fun v => (p.2, zcv ad v)))
theorem zal_in {ad : Nat → Nat} {lv : List (Option Value)} {k : Nat} {v : Value} (h : lv[k]? = some (some v)) : (k, zcv ad v) ∈ zal ad lv := by
  refine List.mem_filterMap.mpr ⟨(some v, k), ?_, rfl⟩
  exact List.mem_of_getElem? (i := k) (by simp [h])
theorem zal_of {ad : Nat → Nat} {lv : List (Option Value)} {q : Nat × Value} (h : q ∈ zal ad lv) : ∃ v, lv[q.1]? = some (some v) ∧ q.2 = zcv ad v := by
  obtain ⟨p, h1, h2⟩ := List.mem_filterMap.mp h
  obtain ⟨o, k⟩ := p
  cases o with
  | none => cases h2
  | some v =>
    cases h2
    refine ⟨v, ?_, rfl⟩
    obtain ⟨i, hi⟩ := List.getElem?_of_mem h1
    rw [List.getElem?_zipIdx] at hi
    cases hx : lv[i]? with
    | none => rw [hx] at hi; cases hi
    | some y => rw [hx] at hi; cases hi; simpa using hx
theorem zLv.has {ad : Nat → Nat} {ls : Array Slot} {lv : List (Option Value)} (h : zLv ad ls lv) : lv_has ls lv.length (zal ad lv) := h.toHas _ (fun _ hq => zal_of hq)
theorem zLv.of {ad : Nat → Nat} {ls : Array Slot} {lv : List (Option Value)} {n : Nat} {l : List (Nat × Value)} (h : lv_has ls n l) (hn : n = lv.length) (hl : ∀ (k : Nat) (v : Value), lv[k]? = some (some v) → (k, zcv ad v) ∈ l) : zLv ad ls lv :=
  ⟨h.1.trans hn, h.2.1, fun k v hk => h.2.2 _ (hl k v hk)⟩
/-- the local ahead of a stored one isn't a long -/
def zc1 (o : Option Value) : Prop := ∀ v, o = some v → v.category = 1
theorem zLv.put1 {ad : Nat → Nat} {ls' : Array Slot} {lv : List (Option Value)} {i : Nat} {v : Value} (hi : i < lv.length) (hp : ∀ o, lv[i - 1]? = some o → i = 0 ∨ zc1 o)
    (h : lv_has ls' lv.length ((i, zcv ad v) :: (zal ad lv).filter (fun q => !(q.1 == i) && !(q.1 + 1 == i && q.2.category == 2)))) : zLv ad ls' (lv.set i (some v)) := by
  refine zLv.of h (by simp) (fun k w hk => ?_)
  by_cases hki : k = i
  · subst hki
    rw [List.getElem?_set_self hi] at hk
    cases hk
    exact List.mem_cons_self
  · rw [List.getElem?_set_ne (fun x => hki x.symm)] at hk
    refine List.mem_cons_of_mem _ (List.mem_filter.mpr ⟨zal_in hk, ?_⟩)
    by_cases h1 : k + 1 = i
    · have h2 : lv[i - 1]? = some (some w) := by rw [show i - 1 = k by omega]; exact hk
      rcases hp _ h2 with h3 | h3
      · omega
      · have h4 := h3 w rfl
        simp [hki, zcv_cat, h4]
    · simp [hki, h1]
section ZR
variable {Γ : zCx} {ω : zOm} {k : zMth} {d pc : Nat} {lv : List (Option Value)} {st : List Value} {μ : zMem}
theorem zY.iconst {n : Int} (hO : zok Γ k d) (hd : decode k.2.1 pc = .ok (.iconst n, 1)) (kk : zY Γ ω (pc + 1) lv (zI n :: st) μ) : zY Γ ω pc lv st μ :=
  fun H locs ls hW hS hL => lv_iconst hO.1 hO.2.1 hd rfl (kk H locs ls hW hS hL)
theorem zY.bipush {n : Int} (hO : zok Γ k d) (hd : decode k.2.1 pc = .ok (.bipush n, 2)) (hv : (Int8.ofInt n).toInt32 = Int32.ofInt n) (kk : zY Γ ω (pc + 2) lv (zI n :: st) μ) : zY Γ ω pc lv st μ :=
  fun H locs ls hW hS hL => lv_bipush hO.1 hO.2.1 hd hv (kk H locs ls hW hS hL)
theorem zY.sipush {n : Int} (hO : zok Γ k d) (hd : decode k.2.1 pc = .ok (.sipush n, 3)) (hv : (Int16.ofInt n).toInt32 = Int32.ofInt n) (kk : zY Γ ω (pc + 3) lv (zI n :: st) μ) : zY Γ ω pc lv st μ :=
  fun H locs ls hW hS hL => lv_sipush hO.1 hO.2.1 hd hv (kk H locs ls hW hS hL)
theorem zY.lconst0 (hO : zok Γ k d) (hd : decode k.2.1 pc = .ok (.lconst 0, 1)) (kk : zY Γ ω (pc + 1) lv (zJ 0 :: st) μ) : zY Γ ω pc lv st μ :=
  fun H locs ls hW hS hL => lv_lconst hO.1 hO.2.1 hd (by decide) (kk H locs ls hW hS hL)
theorem zY.lconst1 (hO : zok Γ k d) (hd : decode k.2.1 pc = .ok (.lconst 1, 1)) (kk : zY Γ ω (pc + 1) lv (zJ 1 :: st) μ) : zY Γ ω pc lv st μ :=
  fun H locs ls hW hS hL => lv_lconst hO.1 hO.2.1 hd (by decide) (kk H locs ls hW hS hL)
theorem zY.ldc2 {idx : Nat} {a : Int} (hO : zok Γ k d) (hw : Cond.constantLong k.1.cls idx (Int64.ofInt a) ∈ zT) (hd : decode k.2.1 pc = .ok (.ldc2_w idx, 3)) (kk : zY Γ ω (pc + 3) lv (zJ a :: st) μ) : zY Γ ω pc lv st μ :=
  fun H locs ls hW hS hL => lv_ldc2 hO.1 hO.2.1 hO.2.2.2.1 (hO.2.2.2.2.1 _ hw) hd (kk H locs ls hW hS hL)
theorem zY.iload_n {j : Fin 4} {a : Int} (hO : zok Γ k d) (hd : decode k.2.1 pc = .ok (.iload_n j, 1)) (hl : lv[(j : Nat)]? = some (some (zI a))) (kk : zY Γ ω (pc + 1) lv (zI a :: st) μ) : zY Γ ω pc lv st μ :=
  fun H locs ls hW hS hL => lv_iload_n hO.1 hO.2.1 hd rfl (hL.2.2 _ _ hl) (kk H locs ls hW hS hL)
theorem zY.iload {j : Nat} {a : Int} (hO : zok Γ k d) (hd : decode k.2.1 pc = .ok (.iload j, 2)) (hl : lv[j]? = some (some (zI a))) (kk : zY Γ ω (pc + 2) lv (zI a :: st) μ) : zY Γ ω pc lv st μ :=
  fun H locs ls hW hS hL => lv_iload hO.1 hO.2.1 hd (hL.2.2 _ _ hl) (kk H locs ls hW hS hL)
theorem zY.lload_n {j : Fin 4} {a : Int} (hO : zok Γ k d) (hd : decode k.2.1 pc = .ok (.lload_n j, 1)) (hl : lv[(j : Nat)]? = some (some (zJ a))) (kk : zY Γ ω (pc + 1) lv (zJ a :: st) μ) : zY Γ ω pc lv st μ :=
  fun H locs ls hW hS hL => lv_lload_n hO.1 hO.2.1 hd rfl (hL.2.2 _ _ hl) (kk H locs ls hW hS hL)
theorem zY.lload {j : Nat} {a : Int} (hO : zok Γ k d) (hd : decode k.2.1 pc = .ok (.lload j, 2)) (hl : lv[j]? = some (some (zJ a))) (kk : zY Γ ω (pc + 2) lv (zJ a :: st) μ) : zY Γ ω pc lv st μ :=
  fun H locs ls hW hS hL => lv_lload hO.1 hO.2.1 hd (hL.2.2 _ _ hl) (kk H locs ls hW hS hL)
theorem zY.aload_n {j : Fin 4} {q : Nat} (hO : zok Γ k d) (hd : decode k.2.1 pc = .ok (.aload_n j, 1)) (hl : lv[(j : Nat)]? = some (some (zP q))) (kk : zY Γ ω (pc + 1) lv (zP q :: st) μ) : zY Γ ω pc lv st μ :=
  fun H locs ls hW hS hL => lv_aload_n hO.1 hO.2.1 hd rfl (hL.2.2 _ _ hl) (kk H locs ls hW hS hL)
theorem zY.aload {j : Nat} {q : Nat} (hO : zok Γ k d) (hd : decode k.2.1 pc = .ok (.aload j, 2)) (hl : lv[j]? = some (some (zP q))) (kk : zY Γ ω (pc + 2) lv (zP q :: st) μ) : zY Γ ω pc lv st μ :=
  fun H locs ls hW hS hL => lv_aload hO.1 hO.2.1 hd (hL.2.2 _ _ hl) (kk H locs ls hW hS hL)
theorem zY.istoreG_n {j : Fin 4} {a : Int} (hO : zok Γ k d) (hd : decode k.2.1 pc = .ok (.istore_n j, 1)) (hi : (j : Nat) < lv.length) (hp : ∀ o, lv[(j : Nat) - 1]? = some o → (j : Nat) = 0 ∨ zc1 o) (kk : zY Γ ω (pc + 1) (lv.set j (some (zI a))) st μ) : zY Γ ω pc lv (zI a :: st) μ :=
  fun H locs ls hW hS hL => lv_istore_n hO.1 hO.2.1 hd rfl hL.has hi rfl (fun ls' h' => kk H locs ls' hW hS (zLv.put1 hi hp h'))
theorem zY.istoreG {j : Nat} {a : Int} (hO : zok Γ k d) (hd : decode k.2.1 pc = .ok (.istore j, 2)) (hi : j < lv.length) (hp : ∀ o, lv[j - 1]? = some o → j = 0 ∨ zc1 o) (kk : zY Γ ω (pc + 2) (lv.set j (some (zI a))) st μ) : zY Γ ω pc lv (zI a :: st) μ :=
  fun H locs ls hW hS hL => lv_istore hO.1 hO.2.1 hd hL.has hi rfl (fun ls' h' => kk H locs ls' hW hS (zLv.put1 hi hp h'))
theorem zY.iincG {j : Nat} {n a b : Int} (hO : zok Γ k d) (hd : decode k.2.1 pc = .ok (.iinc j n, 3)) (hl : lv[j]? = some (some (zI a))) (hb : a + n = b) (hp : ∀ o, lv[j - 1]? = some o → j = 0 ∨ zc1 o) (kk : zY Γ ω (pc + 3) (lv.set j (some (zI b))) st μ) : zY Γ ω pc lv st μ := by
  intro H locs ls hW hS hL
  have hi : j < lv.length := (List.getElem?_eq_some_iff.mp hl).1
  obtain ⟨i, hi2⟩ := List.getElem?_of_mem (zal_in (ad := ω.2.2.1) hl)
  exact lv_iinc hO.1 hO.2.1 hd hL.has hi2 (by rw [← hb, Int32.ofInt_add]) hi rfl (fun ls' h' => kk H locs ls' hW hS (zLv.put1 (v := zI b) hi hp h'))
theorem zY.iadd {a b : Int} (hO : zok Γ k d) (hd : decode k.2.1 pc = .ok (.iadd, 1)) (kk : zY Γ ω (pc + 1) lv (zI (a + b) :: st) μ) : zY Γ ω pc lv (zI b :: zI a :: st) μ := by
  intro H locs ls hW hS hL
  refine lv_iadd hO.1 hO.2.1 hd ?_
  rw [← Int32.ofInt_add]
  exact kk H locs ls hW hS hL
theorem zY.isub {a b : Int} (hO : zok Γ k d) (hd : decode k.2.1 pc = .ok (.isub, 1)) (kk : zY Γ ω (pc + 1) lv (zI (a - b) :: st) μ) : zY Γ ω pc lv (zI b :: zI a :: st) μ := by
  intro H locs ls hW hS hL
  refine lv_isub hO.1 hO.2.1 hd ?_
  rw [← Int32.ofInt_sub]
  exact kk H locs ls hW hS hL
theorem zY.imul {a b : Int} (hO : zok Γ k d) (hd : decode k.2.1 pc = .ok (.imul, 1)) (kk : zY Γ ω (pc + 1) lv (zI (a * b) :: st) μ) : zY Γ ω pc lv (zI b :: zI a :: st) μ := by
  intro H locs ls hW hS hL
  refine lv_imul hO.1 hO.2.1 hd ?_
  rw [← Int32.ofInt_mul]
  exact kk H locs ls hW hS hL
/-- the number on top by another name -/
theorem zY.as {a b : Int} (h : a = b) (kk : zY Γ ω pc lv (zI b :: st) μ) : zY Γ ω pc lv (zI a :: st) μ := h ▸ kk
theorem zY.mem {μ' : zMem} (h : μ = μ') (kk : zY Γ ω pc lv st μ') : zY Γ ω pc lv st μ := h ▸ kk
theorem zY.iand {a b c : Int} (hv : Int32.ofInt a &&& Int32.ofInt b = Int32.ofInt c) (hO : zok Γ k d) (hd : decode k.2.1 pc = .ok (.iand, 1)) (kk : zY Γ ω (pc + 1) lv (zI c :: st) μ) : zY Γ ω pc lv (zI b :: zI a :: st) μ := by
  intro H locs ls hW hS hL
  refine lv_iand hO.1 hO.2.1 hd ?_
  rw [hv]
  exact kk H locs ls hW hS hL
theorem zY.ior {a b c : Int} (hv : Int32.ofInt a ||| Int32.ofInt b = Int32.ofInt c) (hO : zok Γ k d) (hd : decode k.2.1 pc = .ok (.ior, 1)) (kk : zY Γ ω (pc + 1) lv (zI c :: st) μ) : zY Γ ω pc lv (zI b :: zI a :: st) μ := by
  intro H locs ls hW hS hL
  refine lv_ior hO.1 hO.2.1 hd ?_
  rw [hv]
  exact kk H locs ls hW hS hL
theorem zY.ixor {a b c : Int} (hv : Int32.ofInt a ^^^ Int32.ofInt b = Int32.ofInt c) (hO : zok Γ k d) (hd : decode k.2.1 pc = .ok (.ixor, 1)) (kk : zY Γ ω (pc + 1) lv (zI c :: st) μ) : zY Γ ω pc lv (zI b :: zI a :: st) μ := by
  intro H locs ls hW hS hL
  refine lv_ixor hO.1 hO.2.1 hd ?_
  rw [hv]
  exact kk H locs ls hW hS hL
theorem zY.ishl {a b c : Int} (hv : Int32.ofInt a <<< (Int32.ofInt b &&& 31) = Int32.ofInt c) (hO : zok Γ k d) (hd : decode k.2.1 pc = .ok (.ishl, 1)) (kk : zY Γ ω (pc + 1) lv (zI c :: st) μ) : zY Γ ω pc lv (zI b :: zI a :: st) μ := by
  intro H locs ls hW hS hL
  refine lv_ishl hO.1 hO.2.1 hd ?_
  rw [hv]
  exact kk H locs ls hW hS hL
theorem zY.ishr {a b c : Int} (hv : Int32.ofInt a >>> (Int32.ofInt b &&& 31) = Int32.ofInt c) (hO : zok Γ k d) (hd : decode k.2.1 pc = .ok (.ishr, 1)) (kk : zY Γ ω (pc + 1) lv (zI c :: st) μ) : zY Γ ω pc lv (zI b :: zI a :: st) μ := by
  intro H locs ls hW hS hL
  refine lv_ishr hO.1 hO.2.1 hd ?_
  rw [hv]
  exact kk H locs ls hW hS hL
theorem zY.iushr {a b c : Int} (hv : ((Int32.ofInt a).toUInt32 >>> ((Int32.ofInt b).toUInt32 &&& Int32.toUInt32 31)).toInt32 = Int32.ofInt c) (hO : zok Γ k d) (hd : decode k.2.1 pc = .ok (.iushr, 1)) (kk : zY Γ ω (pc + 1) lv (zI c :: st) μ) : zY Γ ω pc lv (zI b :: zI a :: st) μ :=
  fun H locs ls hW hS hL => lv_iushr hO.1 hO.2.1 hd hv (kk H locs ls hW hS hL)
theorem zY.idiv {a b c : Int} (hne : ¬ Int32.ofInt b = 0) (hv : Int32.ofInt a / Int32.ofInt b = Int32.ofInt c) (hO : zok Γ k d) (hd : decode k.2.1 pc = .ok (.idiv, 1)) (kk : zY Γ ω (pc + 1) lv (zI c :: st) μ) : zY Γ ω pc lv (zI b :: zI a :: st) μ := by
  intro H locs ls hW hS hL
  refine lv_idiv hO.1 hO.2.1 hd hne ?_
  rw [hv]
  exact kk H locs ls hW hS hL
theorem zY.irem {a b c : Int} (hne : ¬ Int32.ofInt b = 0) (hv : Int32.ofInt a - Int32.ofInt a / Int32.ofInt b * Int32.ofInt b = Int32.ofInt c) (hO : zok Γ k d) (hd : decode k.2.1 pc = .ok (.irem, 1)) (kk : zY Γ ω (pc + 1) lv (zI c :: st) μ) : zY Γ ω pc lv (zI b :: zI a :: st) μ := by
  intro H locs ls hW hS hL
  refine lv_irem hO.1 hO.2.1 hd hne ?_
  rw [hv]
  exact kk H locs ls hW hS hL
theorem zY.i2l {a : Int} (ha : zr a) (hO : zok Γ k d) (hd : decode k.2.1 pc = .ok (.i2l, 1)) (kk : zY Γ ω (pc + 1) lv (zJ a :: st) μ) : zY Γ ω pc lv (zI a :: st) μ :=
  fun H locs ls hW hS hL => lv_i2l hO.1 hO.2.1 hd (Int32.toInt64_ofInt (by exact ha.1) (by exact ha.2)) (kk H locs ls hW hS hL)
theorem zY.l2i {a : Int} (hO : zok Γ k d) (hd : decode k.2.1 pc = .ok (.l2i, 1)) (kk : zY Γ ω (pc + 1) lv (zI a :: st) μ) : zY Γ ω pc lv (zJ a :: st) μ :=
  fun H locs ls hW hS hL => lv_l2i hO.1 hO.2.1 hd (by simp) (kk H locs ls hW hS hL)
theorem zY.ladd {a b : Int} (hO : zok Γ k d) (hd : decode k.2.1 pc = .ok (.ladd, 1)) (kk : zY Γ ω (pc + 1) lv (zJ (a + b) :: st) μ) : zY Γ ω pc lv (zJ b :: zJ a :: st) μ := by
  intro H locs ls hW hS hL
  refine lv_ladd hO.1 hO.2.1 hd ?_
  rw [← Int64.ofInt_add]
  exact kk H locs ls hW hS hL
theorem zY.lor {a b c : Int} (hv : Int64.ofInt a ||| Int64.ofInt b = Int64.ofInt c) (hO : zok Γ k d) (hd : decode k.2.1 pc = .ok (.lor, 1)) (kk : zY Γ ω (pc + 1) lv (zJ c :: st) μ) : zY Γ ω pc lv (zJ b :: zJ a :: st) μ := by
  intro H locs ls hW hS hL
  refine lv_lor hO.1 hO.2.1 hd ?_
  rw [hv]
  exact kk H locs ls hW hS hL
theorem zY.lshl {a b c : Int} (hv : Int64.ofInt a <<< ((Int32.ofInt b).toInt64 &&& 63) = Int64.ofInt c) (hO : zok Γ k d) (hd : decode k.2.1 pc = .ok (.lshl, 1)) (kk : zY Γ ω (pc + 1) lv (zJ c :: st) μ) : zY Γ ω pc lv (zI b :: zJ a :: st) μ :=
  fun H locs ls hW hS hL => lv_lshl hO.1 hO.2.1 hd hv (kk H locs ls hW hS hL)
theorem zY.lshr {a b c : Int} (hv : Int64.ofInt a >>> ((Int32.ofInt b).toInt64 &&& 63) = Int64.ofInt c) (hO : zok Γ k d) (hd : decode k.2.1 pc = .ok (.lshr, 1)) (kk : zY Γ ω (pc + 1) lv (zJ c :: st) μ) : zY Γ ω pc lv (zI b :: zJ a :: st) μ :=
  fun H locs ls hW hS hL => lv_lshr hO.1 hO.2.1 hd hv (kk H locs ls hW hS hL)
theorem zY.dup {v : Value} (hc : v.category = 1) (hO : zok Γ k d) (hd : decode k.2.1 pc = .ok (.dup, 1)) (kk : zY Γ ω (pc + 1) lv (v :: v :: st) μ) : zY Γ ω pc lv (v :: st) μ :=
  fun H locs ls hW hS hL => lv_dup hO.1 hO.2.1 hd ((zcv_cat _ _).trans hc) (kk H locs ls hW hS hL)
theorem zY.dup2 {v w : Value} (hc : v.category = 1) (hc2 : w.category = 1) (hO : zok Γ k d) (hd : decode k.2.1 pc = .ok (.dup2, 1)) (kk : zY Γ ω (pc + 1) lv (v :: w :: v :: w :: st) μ) : zY Γ ω pc lv (v :: w :: st) μ :=
  fun H locs ls hW hS hL => lv_dup2_11 hO.1 hO.2.1 hd ((zcv_cat _ _).trans hc) ((zcv_cat _ _).trans hc2) (kk H locs ls hW hS hL)
theorem zY.pop {v : Value} (hc : v.category = 1) (hO : zok Γ k d) (hd : decode k.2.1 pc = .ok (.pop, 1)) (kk : zY Γ ω (pc + 1) lv st μ) : zY Γ ω pc lv (v :: st) μ :=
  fun H locs ls hW hS hL => lv_pop hO.1 hO.2.1 hd ((zcv_cat _ _).trans hc) (kk H locs ls hW hS hL)
theorem zY.goto {off : Int} {tgt : Nat} (hO : zok Γ k d) (hd : decode k.2.1 pc = .ok (.goto off, 3)) (ht : (pc : Int) + off = (tgt : Int)) (kk : zY Γ ω tgt lv st μ) : zY Γ ω pc lv st μ :=
  fun H locs ls hW hS hL => lv_goto hO.1 hO.2.1 hd ht (kk H locs ls hW hS hL)
end ZR
