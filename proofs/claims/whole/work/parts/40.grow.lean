/-! THE GROWING LAYER: methods that make cells. Places are numbered in the order in which they are made; a place from 1000 on is never made (the law's script) -/
def zag (n : Nat) (ad ad' : Nat → Nat) : Prop := ∀ q, (q < n ∨ 1000 ≤ q) → ad' q = ad q
theorem zag.rfl' {n : Nat} {a : Nat → Nat} : zag n a a := fun _ _ => rfl
theorem zag.trans {n m : Nat} {a b c : Nat → Nat} (h1 : zag n a b) (h2 : zag m b c) (h : n ≤ m) : zag n a c := fun q hq => (h2 q (by omega)).trans (h1 q hq)
def zlw (n : Nat) (v : Value) : Prop := ∀ q, v = .ref q → q < n ∨ 1000 ≤ q
theorem zlw_I {n : Nat} {a : Int} : zlw n (zI a) := fun q h => by simp [zI] at h
theorem zlw_J {n : Nat} {a : Int} : zlw n (zJ a) := fun q h => by simp [zJ] at h
theorem zlw_P {n p : Nat} (h : p < n ∨ 1000 ≤ p) : zlw n (zP p) := fun q e => by
  have e2 : p = q := Value.ref.inj e
  subst e2
  exact h
def zlwS (n : Nat) (st : List Value) : Prop := ∀ v ∈ st, zlw n v
theorem zlwS_nil {n : Nat} : zlwS n [] := fun v h => by cases h
theorem zlwS_cons {n : Nat} {v : Value} {st : List Value} (h1 : zlw n v) (h2 : zlwS n st) : zlwS n (v :: st) := fun w h => by
  rcases List.mem_cons.mp h with rfl | h
  · exact h1
  · exact h2 w h
def zlwL (n : Nat) (lv : List (Option Value)) : Prop := ∀ v, some v ∈ lv → zlw n v
theorem zlwL_nil {n : Nat} : zlwL n [] := fun v h => by cases h
theorem zlwL_none {n : Nat} {lv : List (Option Value)} (h2 : zlwL n lv) : zlwL n (none :: lv) := fun w h => by
  rcases List.mem_cons.mp h with h | h
  · cases h
  · exact h2 w h
theorem zlwL_some {n : Nat} {v : Value} {lv : List (Option Value)} (h1 : zlw n v) (h2 : zlwL n lv) : zlwL n (some v :: lv) := fun w h => by
  rcases List.mem_cons.mp h with h | h
  · cases h; exact h1
  · exact h2 w h
theorem zcv_ext {n : Nat} {ad ad' : Nat → Nat} {v : Value} (h : zag n ad ad') (hv : zlw n v) : zcv ad' v = zcv ad v := by
  cases v with
  | ref q => exact congrArg Value.ref (h q (hv q rfl))
  | _ => rfl
theorem zLv.ext {n : Nat} {ad ad' : Nat → Nat} {ls : Array Slot} {lv : List (Option Value)} (hL : zLv ad ls lv) (h : zag n ad ad') (hl : zlwL n lv) : zLv ad' ls lv := ⟨hL.1, hL.2.1, fun k v hk => by
  rw [zcv_ext h (hl v (List.mem_of_getElem? hk))]
  exact hL.2.2 k v hk⟩
theorem zst_ext {n : Nat} {ad ad' : Nat → Nat} {st : List Value} (h : zag n ad ad') (hs : zlwS n st) : st.map (zcv ad') = st.map (zcv ad) := List.map_congr_left (fun v hv => zcv_ext h (hs v hv))
/-- the fields of places below n lie below n -/
def zsok (n : Nat) (sh : Nat → zShc) : Prop := ∀ q, q < n → ∀ t ∈ (sh q).2.2, t.1 = 0 → t.2 < n
theorem zfv_ext {ad ad' : Nat → Nat} {t : Nat × Nat} {a : Int} (h : t.1 = 0 → ad' t.2 = ad t.2) : zfv ad' t a = zfv ad t a := by
  obtain ⟨x, y⟩ := t
  match x, h with
  | 0, h => exact congrArg Value.ref (h rfl)
  | 1, _ => rfl
  | 2, _ => rfl
  | k + 3, _ => rfl
theorem zfs_ext {ad ad' : Nat → Nat} {fl : List (Nat × Nat)} {f : Nat → Int} (h : ∀ t ∈ fl, t.1 = 0 → ad' t.2 = ad t.2) : zfs ad' fl f = zfs ad fl f := by
  unfold zfs
  refine List.map_congr_left (fun p hp => zfv_ext (h p.1 ?_))
  obtain ⟨x, y⟩ := p
  obtain ⟨i, hi⟩ := List.getElem?_of_mem hp
  rw [List.getElem?_zipIdx] at hi
  cases hx : fl[i]? with
  | none => rw [hx] at hi; cases hi
  | some z =>
    rw [hx] at hi
    cases hi
    exact List.mem_of_getElem? hx
theorem zce_ext {cc : zC3} {n : Nat} {ad ad' : Nat → Nat} {s : zShc} {f : Nat → Int} (h : zag n ad ad') (hs : ∀ t ∈ s.2.2, t.1 = 0 → t.2 < n) : zce cc ad' s f = zce cc ad s f := by
  obtain ⟨x, y, fl⟩ := s
  match x with
  | 0 =>
    show Sum.inr (y, zfs ad' fl f) = Sum.inr (y, zfs ad fl f)
    rw [zfs_ext (fun t ht h0 => h t.2 (Or.inl (hs t ht h0)))]
  | 1 => rfl
  | 2 => rfl
  | k + 3 => rfl
theorem zwl_push {cc : zC3} {n : Nat} {sh sh' : Nat → zShc} {ad ad' : Nat → Nat} {μ μ' : zMem} {e : va_E} (h : zag n ad ad') (hs : zsok n sh) (hs' : ∀ q, q < n → sh' q = sh q) (hm : ∀ q, q < n → μ' q = μ q) (he : zce cc ad' (sh' n) (μ' n) = e) : zwl cc (n + 1) sh' ad' μ' = zwl cc n sh ad μ ++ [(ad' n, e)] := by
  unfold zwl
  rw [List.range_succ, List.map_append]
  congr 1
  · refine List.map_congr_left (fun q hq => ?_)
    have hq := List.mem_range.mp hq
    rw [h q (Or.inl hq), hs' q hq, hm q hq, zce_ext h (hs q hq)]
  · show [(ad' n, zce cc ad' (sh' n) (μ' n))] = _
    rw [he]
theorem zwl_sh {cc : zC3} {n : Nat} {sh sh' : Nat → zShc} {ad : Nat → Nat} {μ : zMem} (hs : ∀ q, q < n → sh q = sh' q) : zwl cc n sh ad μ = zwl cc n sh' ad μ := by
  unfold zwl
  refine List.map_congr_left (fun q hq => ?_)
  rw [hs q (List.mem_range.mp hq)]
theorem zfs_setF {ad : Nat → Nat} {fl : List (Nat × Nat)} {f : Nat → Int} {k q : Nat} (hk : k < fl.length) : (zfs ad fl f).set k (.ref (ad q)) = zfs ad (fl.set k (0, q)) f := by
  apply List.ext_getElem?
  intro j
  by_cases hj : j < fl.length
  · have hgj : fl[j]? = some fl[j] := List.getElem?_eq_getElem hj
    by_cases hq : j = k
    · subst hq
      rw [List.getElem?_set_self (by rw [zfs_len]; exact hj), zfs_get (t := (0, q)) (by rw [List.getElem?_set_self hj])]
      rfl
    · rw [List.getElem?_set_ne (fun x => hq x.symm), zfs_get hgj, zfs_get (t := fl[j]) (by rw [List.getElem?_set_ne (fun x => hq x.symm)]; exact hgj)]
  · rw [List.getElem?_eq_none (by rw [List.length_set, zfs_len]; omega), List.getElem?_eq_none (by rw [zfs_len, List.length_set]; omega)]
theorem zwl_setS {cc : zC3} {n : Nat} {sh sh' : Nat → zShc} {ad : Nat → Nat} {μ : zMem} {q : Nat} {e : va_E} (h : q < n) (he : zce cc ad (sh' q) (μ q) = e) (ho : ∀ k, k ≠ q → sh' k = sh k) : (zwl cc n sh ad μ).set q (ad q, e) = zwl cc n sh' ad μ := by
  apply List.ext_getElem?
  intro k
  by_cases hk : k < n
  · rw [zwl_get hk]
    by_cases hq : k = q
    · subst hq
      rw [List.getElem?_set_self (by rw [zwl_len]; exact hk), he]
    · rw [List.getElem?_set_ne (fun x => hq x.symm), zwl_get hk, ho k hq]
  · rw [List.getElem?_eq_none (by rw [List.length_set, zwl_len]; omega), List.getElem?_eq_none (by rw [zwl_len]; omega)]
/-! shapes while places are made: place p under way, below it as sh says, above it as the whole world -/
def zu (p ci : Nat) (fl : List (Nat × Nat)) (sh : Nat → zShc) : Nat → zShc := fun q => bif Nat.beq q p then (0, ci, fl) else bif Nat.blt q p then sh q else zSX q
def zd (p : Nat) (sh : Nat → zShc) : Nat → zShc := fun q => bif Nat.blt q p then sh q else zSX q
theorem zblt {a b : Nat} : Nat.blt a b = decide (a < b) := by
  by_cases h : a < b
  · rw [decide_eq_true h]; exact Nat.ble_eq_true_of_le h
  · rw [decide_eq_false h]
    cases hx : Nat.blt a b with
    | false => rfl
    | true => exact absurd (Nat.le_of_ble_eq_true hx) h
theorem zbeq {a b : Nat} : Nat.beq a b = decide (a = b) := by
  by_cases h : a = b
  · subst h; rw [decide_eq_true rfl]; exact Nat.beq_refl a
  · rw [decide_eq_false h]
    cases hx : Nat.beq a b with
    | false => rfl
    | true => exact absurd (Nat.eq_of_beq_eq_true hx) h
theorem zu_eq {p ci : Nat} {fl : List (Nat × Nat)} {sh : Nat → zShc} : zu p ci fl sh p = (0, ci, fl) := by
  unfold zu
  rw [zbeq, decide_eq_true rfl]
  rfl
theorem zu_lt {p ci q : Nat} {fl : List (Nat × Nat)} {sh : Nat → zShc} (h : q < p) : zu p ci fl sh q = sh q := by
  unfold zu
  rw [zbeq, decide_eq_false (by omega), zblt, decide_eq_true h]
  rfl
theorem zu_gt {p ci q : Nat} {fl : List (Nat × Nat)} {sh : Nat → zShc} (h : p < q) : zu p ci fl sh q = zSX q := by
  unfold zu
  rw [zbeq, decide_eq_false (by omega), zblt, decide_eq_false (by omega)]
  rfl
theorem zd_lt {p q : Nat} {sh : Nat → zShc} (h : q < p) : zd p sh q = sh q := by
  unfold zd
  rw [zblt, decide_eq_true h]
  rfl
theorem zd_ge {p q : Nat} {sh : Nat → zShc} (h : p ≤ q) : zd p sh q = zSX q := by
  unfold zd
  rw [zblt, decide_eq_false (by omega)]
  rfl
theorem zd_zu {n p ci : Nat} {fl : List (Nat × Nat)} {sh : Nat → zShc} (h : p < n) : ∀ q, zd n (zu p ci fl sh) q = zu p ci fl sh q := fun q => by
  rcases Nat.lt_or_ge q n with hq | hq
  · exact zd_lt hq
  · rw [zd_ge hq, zu_gt (by omega)]
theorem zu_zd {p ci : Nat} {fl : List (Nat × Nat)} {sh : Nat → zShc} (h : zSX p = (0, ci, fl)) : ∀ q, zu p ci fl sh q = zd p sh q := fun q => by
  rcases Nat.lt_trichotomy q p with hq | hq | hq
  · rw [zu_lt hq, zd_lt hq]
  · subst hq
    rw [zu_eq, zd_ge (Nat.le_refl _), h]
  · rw [zu_gt hq, zd_ge (by omega)]
def zchk (p n : Nat) (fl : List (Nat × Nat)) : Bool := fl.all (fun t => !Nat.beq t.1 0 || Nat.blt t.2 n) && (List.range n).all (fun q => Nat.ble q p || (zSX q).2.2.all (fun t => !Nat.beq t.1 0 || Nat.blt t.2 n))
theorem zsok_zu {n p ci : Nat} {fl : List (Nat × Nat)} {sh : Nat → zShc} (h0 : zsok p sh) (hp : p < n) (h1 : zchk p n fl = true) : zsok n (zu p ci fl sh) := by
  unfold zchk at h1
  rw [Bool.and_eq_true] at h1
  have key : ∀ l : List (Nat × Nat), l.all (fun t => !Nat.beq t.1 0 || Nat.blt t.2 n) = true → ∀ t ∈ l, t.1 = 0 → t.2 < n := fun l hl t ht h0 => by
    have h2 := List.all_eq_true.mp hl t ht
    rw [zbeq, zblt, decide_eq_true h0] at h2
    simpa using h2
  intro q hq t ht
  rcases Nat.lt_trichotomy q p with hqp | hqp | hqp
  · rw [zu_lt hqp] at ht
    intro hz
    have := h0 q hqp t ht hz
    omega
  · subst hqp
    rw [zu_eq] at ht
    exact key fl h1.1 t ht
  · rw [zu_gt hqp] at ht
    have h2 := List.all_eq_true.mp h1.2 q (List.mem_range.mpr hq)
    rw [Bool.or_eq_true] at h2
    rcases h2 with h2 | h2
    · have := Nat.le_of_ble_eq_true h2
      omega
    · exact key _ h2 t ht
theorem zsok_one {p ci : Nat} {fl : List (Nat × Nat)} {sh : Nat → zShc} (h0 : zsok p sh) (h1 : ∀ t ∈ fl, t.1 ≠ 0) : zsok (p + 1) (zu p ci fl sh) := by
  intro q hq t ht hz
  rcases Nat.lt_or_ge q p with hqp | hqp
  · rw [zu_lt hqp] at ht
    have := h0 q hqp t ht hz
    omega
  · have : q = p := by omega
    subst this
    rw [zu_eq] at ht
    exact absurd hz (h1 t ht)
theorem zu_ne {p ci q : Nat} {fl fl' : List (Nat × Nat)} {sh : Nat → zShc} (h : q ≠ p) : zu p ci fl' sh q = zu p ci fl sh q := by
  unfold zu
  rw [zbeq, decide_eq_false h]
  rfl
/-! contracts of constructors -/
def zAx (n : Nat) (ad : Nat → Nat) (sz : Nat) : Nat → Prop := fun a => (∃ q, q < n ∧ a = ad q) ∨ sz ≤ a
def zrmN (d mc ms : Nat) : Room := { frames := d, cells := mc, slots := ms, locals := 40 * d }
def zQN (D : va_G) (cc : zC3) (n : Nat) (ad : Nat → Nat) (sz n' : Nat) (sh' : Nat → zShc) (post : zMem → Prop) : Array Value → State → Outcome → State → Prop :=
  fun _ st o t => (∃ (ad' : Nat → Nat) (μ' : zMem), o = .returned none ∧ zag n ad ad' ∧ post μ' ∧ va_P D vwCl (zwl cc n' sh' ad' μ') t.heap ∧ va_D (zAx n ad sz) (zwl cc n' sh' ad' μ')) ∧ va_F (zAx n ad sz) st t
def Cn (k : zMth) (d n : Nat) (sh : Nat → zShc) (av : List Value) (μ : zMem) (n' : Nat) (sh' : Nat → zShc) (mc ms : Nat) (post : zMem → Prop) : Prop :=
  ∀ (l : Launch) (D : va_G) (cc : zC3) (ad : Nat → Nat) (sz : Nat), Met l k.1 (zws k) (zrmN d mc ms)
    (va_Pc (av.map (zcv ad)) (fun U => U.heap.size = sz ∧ va_P D vwCl (zwl cc n sh ad μ) U.heap ∧ va_D (fun _ => True) (zwl cc n sh ad μ) ∧ zK D cc U))
    (zQN D cc n ad sz n' sh' post) mc ms (zAx n ad sz)
/-- what a body that makes cells may lean on -/
def zgrw (Γ : zCx) (mc ms : Nat) : Prop := (∀ q, Γ.2.2.2.2.2.1.size ≤ q → Γ.2.2.2.2.1 q) ∧ Γ.1.2.2.2.cells = mc ∧ Γ.1.2.2.2.slots = ms
theorem zgrw.le {Γ : zCx} {mc ms c s : Nat} (h : zgrw Γ mc ms) (h1 : c ≤ mc) (h2 : s ≤ ms) : c ≤ Γ.1.2.2.2.cells ∧ s ≤ Γ.1.2.2.2.slots := ⟨by rw [h.2.1]; exact h1, by rw [h.2.2]; exact h2⟩
def zrtN (Γ : zCx) (n : Nat) (ad : Nat → Nat) (sz n' : Nat) (sh' : Nat → zShc) (mc ms : Nat) (post : zMem → Prop) : Prop :=
  Γ.2.2.2.2.1 = zAx n ad sz ∧ Γ.2.2.2.2.2.1 = Γ.2.1.1.heap ∧ Γ.2.2.2.2.2.2 = MQ Γ.2.1.2.2.2 (zQN Γ.2.2.1.2.2 Γ.2.2.2.1 n ad sz n' sh' post) Γ.2.1.2.2.1 Γ.2.1.1 mc ms (zAx n ad sz)
theorem Cn.of {k : zMth} {d n n' mc ms : Nat} {sh sh' : Nat → zShc} {av : List Value} {μ : zMem} {post : zMem → Prop} (lv : List (Option Value)) (hlv : zent av k.2.2.1 = lv) (hlen : (zent1 av).length ≤ k.2.2.1) (hy : plainName k.1.cls = true) (hin : k.1.name = "<init>")
    (body : ∀ (Γ : zCx) (ad : Nat → Nat) (sz : Nat), zok Γ k d → zgrw Γ mc ms → Γ.2.2.1.1.name = "<init>" → zrtN Γ n ad sz n' sh' mc ms post → zY Γ (n, sh, ad, 0, 0) 0 lv [] μ) : Cn k d n sh av μ n' sh' mc ms post := by
  intro l D cc ad sz
  refine Met.ofW (cc := k.2.1) (maxL := k.2.2.1) (ret := k.2.2.2) hy rfl ?_
  intro p e s m args below meth c s₁ B hml hv
  obtain ⟨rfl, hsz, hP, hD, hK⟩ := hv
  have hts := atoms_spec (ws := zws k) B.pre
  have hown : s.vm.findClass k.1.cls = some m.cls := findClass_of_methodNamed B.named
  have hDA : va_D (zAx n ad sz) (zwl cc n sh ad μ) := ⟨hD.1, fun q x hx => by
    obtain ⟨h1, rfl⟩ := zwl_of hx
    exact Or.inl ⟨q, h1, rfl⟩⟩
  have h0 := body ((p, l, e, (headSpec (zws k) (zrmN d mc ms)).room), (s, m, (av.map (zcv ad)).toArray, below), (meth, c, D), (cc, zAx n ad sz, s.heap, MQ below (zQN D cc n ad sz n' sh' post) (av.map (zcv ad)).toArray s mc ms (zAx n ad sz))) ad sz
    ⟨B.exec, B.bytes, hml, hown, fun w hw => hts w (List.mem_cons_of_mem _ hw), hK, B.notSynchronized, Nat.le_refl _, Nat.le_refl _, B.returns⟩ ⟨fun q hq => Or.inr (by rw [← hsz]; exact hq), rfl, rfl⟩ ((name_of_methodNamed B.named B.method).1.trans hin) ⟨rfl, rfl, rfl⟩
  have hlen' : (lg_sl (av.map (zcv ad))).length ≤ k.2.2.1 := by rw [zent1_len]; exact hlen
  have hl := lv_entry (av.map (zcv ad)) hlen'
  rw [lg_entry_eq]
  have hL : zLv ad ((lg_sl (av.map (zcv ad)) ++ List.replicate (k.2.2.1 - (lg_sl (av.map (zcv ad))).length) Slot.unset).toArray) lv := by
    refine zLv.of hl ?_ (fun j v hj => ?_)
    · rw [← hlv, zent, List.length_append, List.length_replicate]
      omega
    · rw [← hlv, zent] at hj
      by_cases hjl : j < (zent1 av).length
      · rw [List.getElem?_append_left hjl] at hj
        have := zent1_in ad av 0 j v hj
        rwa [Nat.zero_add] at this
      · rw [List.getElem?_append_right (by omega)] at hj
        have := List.mem_of_getElem? hj
        rw [List.mem_replicate] at this
        cases this.2
  exact h0 s.heap [] _ ⟨hP, hDA⟩ va_S.rf hL
section ZGR
variable {Γ : zCx} {k : zMth} {d pc n n1 c1 s1 cs sl mc ms n0 : Nat} {sh sh' : Nat → zShc} {ad ad0 : Nat → Nat} {lv : List (Option Value)} {st : List Value} {μ : zMem}
theorem zY.cret {n' sz : Nat} {sh1 : Nat → zShc} {post : zMem → Prop} (hret : k.2.2.2 = none) (hR : zrtN Γ n0 ad0 sz n' sh1 mc ms post) (hp : post μ) (had : zag n0 ad0 ad) (hn : n = n') (hs : ∀ q, q < n → sh q = sh1 q) (hc : cs = mc) (hl : sl = ms) (hO : zok Γ k d) (hd : decode k.2.1 pc = .ok (.return_, 1)) : zY Γ (n, sh, ad, cs, sl) pc lv [] μ := by
  intro H locs ls hW hS hL
  subst hn hc hl
  obtain ⟨h1, h2, h3⟩ := hR
  rw [h1, h2] at hS
  have hW1 := hW.1
  have hW2 := hW.2
  dsimp only at hW1 hW2
  rw [zwl_sh hs] at hW1 hW2
  rw [h1] at hW2
  rw [h3]
  exact W.vret hO.1 hO.2.1 (hO.2.2.2.2.2.2.2.2.2.trans hret) (fun t ht _ => ⟨⟨ad, μ, rfl, had, hp, by rw [ht]; exact hW1, hW2⟩, hS.F ht⟩) hS.2.2 hd hO.2.2.2.2.2.2.1
theorem zY.objI {idx q : Nat} (hlk : Cond.methodLink k.1.cls idx objectInit ∈ zT) (hdd : 1 ≤ d) (hll : lv.length = k.2.2.1) (hrs : (st.map fun v => v.category).sum ≤ 8) {ω : zOm} (hO : zok Γ k d) (hd : decode k.2.1 pc = .ok (.invokespecial idx, 3)) (kk : zY Γ ω (pc + 3) lv st μ) : zY Γ ω pc lv (zP q :: st) μ := by
  intro H locs ls hW hS hL
  have hts := hO.2.2.2.2.1
  have hfr := hO.2.2.2.2.2.2.2.1
  have hlo := hO.2.2.2.2.2.2.2.2.1
  refine W.objInit hO.1 hO.2.1 hO.2.2.2.1 (hts _ hlk) (hts _ zob_i) (hts _ zob_c) rfl ?_ rfl hd (by omega) ?_ (kk H locs ls hW hS hL)
  · exact hL.1.trans (hll.trans hO.2.2.1.symm)
  · show 2 * 0 + _ + 12 ≤ _
    rw [zmapcat]
    omega
/-- a kind of object that is made -/
def zKl (own : String) (idx ci N : Nat) (fl : List (Nat × Nat)) : Prop := ∃ (C : String) (T : u_T) (ty0 : Nat → FieldType), vwCl[ci]? = some (C, T, N) ∧ (∀ w ∈ u_ws C T N, w ∈ zT) ∧ (∀ k, k < N → parseFieldDescriptor (T k).2.2.1 = some (ty0 k)) ∧ Cond.classLink own idx C ∈ zT ∧ Cond.instantiable C N ∈ zT ∧ Cond.initialized C ∈ zT ∧ (∀ j, j < N → defaultValue (ty0 j) = vp_V (zfs (fun _ => 0) fl (fun _ => 0)) j) ∧ ∀ t ∈ fl, t.1 ≠ 0
theorem zad_new {n a : Nat} {ad : Nat → Nat} (hn : n < 1000) : (fun x => if x = n then a else ad x) n = a ∧ zag n ad (fun x => if x = n then a else ad x) := ⟨by simp, fun x hx => by
  show (if x = n then a else ad x) = ad x
  rw [if_neg (by omega)]⟩
theorem zY.new {idx ci N : Nat} {fl : List (Nat × Nat)} (hK : zKl k.1.cls idx ci N fl) (hG : zgrw Γ mc ms) (had : zag n0 ad0 ad) (hn0 : n0 ≤ n) (hn : n < 1000) (hsh : zsok n sh) (hs1 : sh' n = (0, ci, fl)) (hs2 : ∀ q, q < n → sh' q = sh q) (hlv : zlwL n lv) (hst : zlwS n st) (e1 : n1 = n + 1) (e2 : c1 = cs + 1) (e3 : s1 = sl + N) (hc : c1 ≤ mc ∧ s1 ≤ ms) (hO : zok Γ k d) (hd : decode k.2.1 pc = .ok (.new idx, 3))
    (kk : ∀ ad' : Nat → Nat, zag n0 ad0 ad' → zY Γ (n1, sh', ad', c1, s1) (pc + 3) lv (zP n :: st) (zrow μ n (fun _ => 0))) : zY Γ (n, sh, ad, cs, sl) pc lv st μ := by
  intro H locs ls hW hS hL
  subst e1 e2 e3
  obtain ⟨C, T, ty0, h1, h2, h3, h4, h5, h6, h7, h8⟩ := hK
  have hts := hO.2.2.2.2.1
  refine va_new (fs := zfs (fun _ => 0) fl (fun _ => 0)) hO.1 hO.2.1 hts h2 ty0 h3 hO.2.2.2.1 (hts _ h4) (hts _ h5) (hts _ h6) hO.2.2.2.2.2.1.1 hW.1 hW.2 hS hG.1 h1 h7 (by rw [hG.2.1]; exact hc.1) (by rw [hG.2.2]; exact hc.2) hd (fun q H1 hP1 hD1 hS1 => ?_)
  obtain ⟨adN, g1, g2⟩ : ∃ adN : Nat → Nat, adN n = q ∧ zag n ad adN := ⟨fun x => if x = n then q else ad x, zad_new (a := q) (ad := ad) hn⟩
  have hp := zwl_push (cc := Γ.2.2.2.1) (sh' := sh') (μ' := zrow μ n (fun _ => 0)) (μ := μ) (e := .inr (ci, zfs (fun _ => 0) fl (fun _ => 0))) g2 hsh hs2 (fun x hx => zrow_ne (by omega)) (by rw [hs1, zce_0 rfl, zrow_eq, zfs_ext (fun t ht h0 => absurd h0 (h8 t ht))])
  rw [g1] at hp
  have hP1' := hP1
  have hD1' := hD1
  dsimp only at hP1' hD1'
  rw [← hp] at hP1' hD1'
  have hk := kk _ (had.trans g2 hn0) H1 locs ls ⟨hP1', hD1'⟩ hS1 (hL.ext g2 hlv)
  have es : (zP n :: st).map (zcv adN) = .ref q :: st.map (zcv ad) := by rw [List.map_cons, zst_ext g2 hst, zcv_P, g1]
  dsimp only at hk
  rw [es] at hk
  exact hk
theorem zcls {D : va_G} {cc : zC3} {s : State} {cA : ClassId} {ty : FieldType} (i : Nat) {cB : ClassId} (hi : ([(cc.1, .int), (cc.2.1, .long), (cc.2.2, .boolean)] : List (ClassId × FieldType))[i]? = some (cB, ty)) (hlt : i < 3) (hno : ∀ C, ty ≠ .object C) (h : va_K D vwCl ([(cc.1, .int), (cc.2.1, .long), (cc.2.2, .boolean)] ++ [(cA, ty)]) s) : cA = cB := by
  have h1 := (h.2 3 (cA, ty) (by simp)).2
  have h2 := (h.2 i (cB, ty) (by rw [List.getElem?_append_left (by simpa using hlt)]; exact hi)).2
  unfold va_RA at h1 h2
  cases ty with
  | object C => exact absurd rfl (hno C)
  | _ => exact Option.some.inj (h1.symm.trans h2)
theorem zY.newI {len : Nat} {a : Int} (ha : a = (len : Int)) (hlen : len ≤ 100000) (hG : zgrw Γ mc ms) (had : zag n0 ad0 ad) (hn0 : n0 ≤ n) (hn : n < 1000) (hsh : zsok n sh) (hs1 : sh' n = (1, len, [])) (hs2 : ∀ q, q < n → sh' q = sh q) (hlv : zlwL n lv) (hst : zlwS n st) (e1 : n1 = n + 1) (e2 : c1 = cs + 1) (e3 : s1 = sl + len) (hc : c1 ≤ mc ∧ s1 ≤ ms) (hO : zok Γ k d) (hd : decode k.2.1 pc = .ok (.newarray .int, 2))
    (kk : ∀ ad' : Nat → Nat, zag n0 ad0 ad' → zY Γ (n1, sh', ad', c1, s1) (pc + 2) lv (zP n :: st) (zrow μ n (fun _ => 0))) : zY Γ (n, sh, ad, cs, sl) pc lv (zI a :: st) μ := by
  intro H locs ls hW hS hL
  subst e1 e2 e3 ha
  have hts := hO.2.2.2.2.1
  have hc0 : (Int32.ofInt (len : Int)).toNatClampNeg = len := by rw [zr_clamp (by omega) (by omega)]; omega
  refine va_newa (atype := .int) (ty := .int) (N' := len) (a0 := (len, .inl (fun _ => Int32.ofInt 0))) hO.1 hO.2.1 (hts _ zac_int) rfl hO.2.2.2.2.2.1.1 hW.1 hW.2 hS hG.1 (fun cA => rfl) (fun z => by have := (zr_lt (a := (len : Int)) (b := 0) ⟨by omega, by omega⟩ zr_0).mp z; omega) hc0 (by show len * 4 ≤ _; omega) (by rw [hG.2.1]; exact hc.1) (by rw [hG.2.2]; exact hc.2) hd (fun q cA H1 hK1 hP1 hD1 hS1 => ?_)
  have hcA : cA = Γ.2.2.2.1.1 := zcls 0 rfl (by decide) (fun C z => by cases z) hK1
  subst hcA
  obtain ⟨adN, g1, g2⟩ : ∃ adN : Nat → Nat, adN n = q ∧ zag n ad adN := ⟨fun x => if x = n then q else ad x, zad_new (a := q) (ad := ad) hn⟩
  have hp := zwl_push (cc := Γ.2.2.2.1) (sh' := sh') (μ' := zrow μ n (fun _ => 0)) (μ := μ) (e := .inl (Γ.2.2.2.1.1, (len, .inl (fun _ => Int32.ofInt 0)))) g2 hsh hs2 (fun x hx => zrow_ne (by omega)) (by rw [hs1, zce_1 rfl, zrow_eq])
  rw [g1] at hp
  have hP1' := hP1
  have hD1' := hD1
  dsimp only at hP1' hD1'
  rw [← hp] at hP1' hD1'
  have hk := kk _ (had.trans g2 hn0) H1 locs ls ⟨hP1', hD1'⟩ hS1 (hL.ext g2 hlv)
  have es : (zP n :: st).map (zcv adN) = .ref q :: st.map (zcv ad) := by rw [List.map_cons, zst_ext g2 hst, zcv_P, g1]
  dsimp only at hk
  rw [es] at hk
  exact hk
theorem zY.newJ {len : Nat} {a : Int} (ha : a = (len : Int)) (hlen : len ≤ 100000) (hG : zgrw Γ mc ms) (had : zag n0 ad0 ad) (hn0 : n0 ≤ n) (hn : n < 1000) (hsh : zsok n sh) (hs1 : sh' n = (2, len, [])) (hs2 : ∀ q, q < n → sh' q = sh q) (hlv : zlwL n lv) (hst : zlwS n st) (e1 : n1 = n + 1) (e2 : c1 = cs + 1) (e3 : s1 = sl + len) (hc : c1 ≤ mc ∧ s1 ≤ ms) (hO : zok Γ k d) (hd : decode k.2.1 pc = .ok (.newarray .long, 2))
    (kk : ∀ ad' : Nat → Nat, zag n0 ad0 ad' → zY Γ (n1, sh', ad', c1, s1) (pc + 2) lv (zP n :: st) (zrow μ n (fun _ => 0))) : zY Γ (n, sh, ad, cs, sl) pc lv (zI a :: st) μ := by
  intro H locs ls hW hS hL
  subst e1 e2 e3 ha
  have hts := hO.2.2.2.2.1
  have hc0 : (Int32.ofInt (len : Int)).toNatClampNeg = len := by rw [zr_clamp (by omega) (by omega)]; omega
  refine va_newa (atype := .long) (ty := .long) (N' := len) (a0 := (len, .inr (.inl (fun _ => Int64.ofInt 0)))) hO.1 hO.2.1 (hts _ zac_long) rfl hO.2.2.2.2.2.1.1 hW.1 hW.2 hS hG.1 (fun cA => rfl) (fun z => by have := (zr_lt (a := (len : Int)) (b := 0) ⟨by omega, by omega⟩ zr_0).mp z; omega) hc0 (by show len * 8 ≤ _; omega) (by rw [hG.2.1]; exact hc.1) (by rw [hG.2.2]; exact hc.2) hd (fun q cA H1 hK1 hP1 hD1 hS1 => ?_)
  have hcA : cA = Γ.2.2.2.1.2.1 := zcls 1 rfl (by decide) (fun C z => by cases z) hK1
  subst hcA
  obtain ⟨adN, g1, g2⟩ : ∃ adN : Nat → Nat, adN n = q ∧ zag n ad adN := ⟨fun x => if x = n then q else ad x, zad_new (a := q) (ad := ad) hn⟩
  have hp := zwl_push (cc := Γ.2.2.2.1) (sh' := sh') (μ' := zrow μ n (fun _ => 0)) (μ := μ) (e := .inl (Γ.2.2.2.1.2.1, (len, .inr (.inl (fun _ => Int64.ofInt 0))))) g2 hsh hs2 (fun x hx => zrow_ne (by omega)) (by rw [hs1, zce_2 rfl, zrow_eq])
  rw [g1] at hp
  have hP1' := hP1
  have hD1' := hD1
  dsimp only at hP1' hD1'
  rw [← hp] at hP1' hD1'
  have hk := kk _ (had.trans g2 hn0) H1 locs ls ⟨hP1', hD1'⟩ hS1 (hL.ext g2 hlv)
  have es : (zP n :: st).map (zcv adN) = .ref q :: st.map (zcv ad) := by rw [List.map_cons, zst_ext g2 hst, zcv_P, g1]
  dsimp only at hk
  rw [es] at hk
  exact hk
theorem zY.newZ {len : Nat} {a : Int} (ha : a = (len : Int)) (hlen : len ≤ 100000) (hG : zgrw Γ mc ms) (had : zag n0 ad0 ad) (hn0 : n0 ≤ n) (hn : n < 1000) (hsh : zsok n sh) (hs1 : sh' n = (3, len, [])) (hs2 : ∀ q, q < n → sh' q = sh q) (hlv : zlwL n lv) (hst : zlwS n st) (e1 : n1 = n + 1) (e2 : c1 = cs + 1) (e3 : s1 = sl + len) (hc : c1 ≤ mc ∧ s1 ≤ ms) (hO : zok Γ k d) (hd : decode k.2.1 pc = .ok (.newarray .boolean, 2))
    (kk : ∀ ad' : Nat → Nat, zag n0 ad0 ad' → zY Γ (n1, sh', ad', c1, s1) (pc + 2) lv (zP n :: st) (zrow μ n (fun _ => 0))) : zY Γ (n, sh, ad, cs, sl) pc lv (zI a :: st) μ := by
  intro H locs ls hW hS hL
  subst e1 e2 e3 ha
  have hts := hO.2.2.2.2.1
  have hc0 : (Int32.ofInt (len : Int)).toNatClampNeg = len := by rw [zr_clamp (by omega) (by omega)]; omega
  refine va_newa (atype := .boolean) (ty := .boolean) (N' := len) (a0 := (len, .inl (fun _ => Int32.ofInt 0))) hO.1 hO.2.1 (hts _ zac_boolean) rfl hO.2.2.2.2.2.1.1 hW.1 hW.2 hS hG.1 (fun cA => rfl) (fun z => by have := (zr_lt (a := (len : Int)) (b := 0) ⟨by omega, by omega⟩ zr_0).mp z; omega) hc0 (by show len * 1 ≤ _; omega) (by rw [hG.2.1]; exact hc.1) (by rw [hG.2.2]; exact hc.2) hd (fun q cA H1 hK1 hP1 hD1 hS1 => ?_)
  have hcA : cA = Γ.2.2.2.1.2.2 := zcls 2 rfl (by decide) (fun C z => by cases z) hK1
  subst hcA
  obtain ⟨adN, g1, g2⟩ : ∃ adN : Nat → Nat, adN n = q ∧ zag n ad adN := ⟨fun x => if x = n then q else ad x, zad_new (a := q) (ad := ad) hn⟩
  have hp := zwl_push (cc := Γ.2.2.2.1) (sh' := sh') (μ' := zrow μ n (fun _ => 0)) (μ := μ) (e := .inl (Γ.2.2.2.1.2.2, (len, .inl (fun _ => Int32.ofInt 0)))) g2 hsh hs2 (fun x hx => zrow_ne (by omega)) (by rw [hs1, zce_3 rfl, zrow_eq])
  rw [g1] at hp
  have hP1' := hP1
  have hD1' := hD1
  dsimp only at hP1' hD1'
  rw [← hp] at hP1' hD1'
  have hk := kk _ (had.trans g2 hn0) H1 locs ls ⟨hP1', hD1'⟩ hS1 (hL.ext g2 hlv)
  have es : (zP n :: st).map (zcv adN) = .ref q :: st.map (zcv ad) := by rw [List.map_cons, zst_ext g2 hst, zcv_P, g1]
  dsimp only at hk
  rw [es] at hk
  exact hk
/-- a final field of a place, set in its constructor -/
def zFF (own : String) (idx ci kf : Nat) : Prop := ∃ (C : String) (T : u_T) (N : Nat) (ty0 : Nat → FieldType) (ty : FieldType), vwCl[ci]? = some (C, T, N) ∧ kf < N ∧ Cond.fieldLink own idx C (T kf).2.1 (T kf).2.2.1 ∈ zT ∧ (T kf).1 = C ∧ (∀ w ∈ u_ws C T N, w ∈ zT) ∧ (∀ k, k < N → parseFieldDescriptor (T k).2.2.1 = some (ty0 k)) ∧ (∀ a, a < N → ∀ b, b < N → a ≠ b → (T a).2.1 ≠ (T b).2.1) ∧ (T kf).2.2.2 = true ∧ (T kf).1 = own ∧ parseFieldDescriptor (T kf).2.2.1 = some ty ∧ ∀ a : Nat, narrow ty (.ref a) = .ref a ∧ fits ty (.ref a) = true
theorem zY.putF {idx ci kf p q : Nat} {fl fl' : List (Nat × Nat)} {sh0 : Nat → zShc} (hF : zFF k.1.cls idx ci kf) (hin : Γ.2.2.1.1.name = "<init>") (hp : p < n) (hkf : kf < fl.length) (hfl : fl.set kf (0, q) = fl') (hO : zok Γ k d) (hd : decode k.2.1 pc = .ok (.putfield idx, 3)) (kk : zY Γ (n, zu p ci fl' sh0, ad, cs, sl) (pc + 3) lv st μ) : zY Γ (n, zu p ci fl sh0, ad, cs, sl) pc lv (zP q :: zP p :: st) μ := by
  intro H locs ls hW hS hL
  subst hfl
  obtain ⟨C, T, N, ty0, ty, h1, h2, h3, h4, h5, h6, h7, h8, h9, h10, h11⟩ := hF
  have he := zwl_get (cc := Γ.2.2.2.1) (sh := zu p ci fl sh0) (ad := ad) (μ := μ) hp
  rw [zce_0 zu_eq] at he
  refine va_putF (v := .ref (ad q)) hO.1 hO.2.1 hO.2.2.2.2.1 h5 ty0 h6 h7 hO.2.2.2.1 hO.2.2.2.2.2.1.1 hW.1 hW.2 hS p he h1 kf h2 (hO.2.2.2.2.1 _ h3) (fun x hx => by rw [h4] at hx; exact hx) h8 hin h9 h10 (h11 _).1 (h11 _).2 (by rw [zfs_len]; exact hkf) hd (fun H1 locs1 hP1 hD1 hS1 => ?_)
  have hset : (zwl Γ.2.2.2.1 n (zu p ci fl sh0) ad μ).set p (ad p, .inr (ci, (zfs ad fl (μ p)).set kf (.ref (ad q)))) = zwl Γ.2.2.2.1 n (zu p ci (fl.set kf (0, q)) sh0) ad μ := by
    refine zwl_setS hp ?_ (fun j hj => zu_ne hj)
    rw [zce_0 zu_eq, zfs_setF hkf]
  have hP1' := hP1
  have hD1' := hD1
  dsimp only at hP1' hD1'
  rw [hset] at hP1' hD1'
  exact kk H1 locs1 ls ⟨hP1', hD1'⟩ hS1 hL
/-! calls of constructors -/
theorem zpreN {D : va_G} {cc : zC3} {s : State} {H : Heap} {A : Nat → Prop} (hP : va_P D vwCl (zwl cc n sh ad μ) H) (hD : va_D A (zwl cc n sh ad μ)) (hK : zK D cc s) (as : List Value) :
    FrameBlind (va_Pc as (fun U => U.heap.size = H.size ∧ va_P D vwCl (zwl cc n sh ad μ) U.heap ∧ va_D (fun _ => True) (zwl cc n sh ad μ) ∧ zK D cc U)) ∧ ∀ U : State, U.heap = H → s.WarmedH U.vm → va_Pc as (fun U => U.heap.size = H.size ∧ va_P D vwCl (zwl cc n sh ad μ) U.heap ∧ va_D (fun _ => True) (zwl cc n sh ad μ) ∧ zK D cc U) as.toArray U :=
  ⟨fun a U g mk q => ⟨q.1, q.2.1, q.2.2.1, q.2.2.2.1, q.2.2.2.2.calling⟩, fun U hU hWm => ⟨rfl, by rw [hU], by rw [hU]; exact hP, hD.weaken (fun _ _ _ _ => trivial), hK.warm hWm⟩⟩
theorem zbackN {n' mcc msc : Nat} {sh1 : Nat → zShc} {rest : List Value} {post : zMem → Prop} {H : Heap} {locs : List Loc} {ls : Array Slot} {st0 : List Value} (hr : va_Run Γ.1.1 Γ.1.2.1 Γ.1.2.2.1 Γ.1.2.2.2 Γ.2.1.1 Γ.2.1.2.1 Γ.2.1.2.2.1 Γ.2.1.2.2.2 Γ.2.2.1.1 Γ.2.2.1.2.1 H locs cs sl mcc msc (F0 Γ.2.1.2.1 pc ls st0) (rest.map (zcv ad)) (fun st o t => zQN Γ.2.2.1.2.2 Γ.2.2.2.1 n ad H.size n' sh1 post Γ.2.1.2.2.1 st o t) (zAx n ad H.size))
    (hW : zWd Γ (n, sh, ad, cs, sl) μ H) (hS : va_S Γ.2.2.2.2.1 Γ.2.2.2.2.2.1 H locs) (hL : zLv ad ls lv) (hG : zgrw Γ mc ms) (had : zag n0 ad0 ad) (hn0 : n0 ≤ n) (hs' : ∀ q, q < n' → sh1 q = sh' q) (hlv : zlwL n lv) (hst : zlwS n rest) (e2 : c1 = cs + mcc) (e3 : s1 = sl + msc)
    (kk : ∀ (ad' : Nat → Nat) (μ' : zMem), zag n0 ad0 ad' → post μ' → zY Γ (n', sh', ad', c1, s1) (pc + 3) lv rest μ') :
    W Γ.1.1 Γ.1.2.1 Γ.1.2.2.1 Γ.1.2.2.2 Γ.2.1.1 Γ.2.1.2.1 Γ.2.1.2.2.1 Γ.2.1.2.2.2 Γ.2.2.1.1 Γ.2.2.1.2.1 H locs cs sl Γ.2.2.2.2.2.2 (F0 Γ.2.1.2.1 pc ls st0) := by
  subst e2 e3
  intro T hT X
  obtain ⟨v, st₀, t, T', L, h0, X', hL1, e1, e2, ⟨⟨ad', μ', hv, hg, hp, hP, hD⟩, hz, hk⟩, stp⟩ := hr T hT X
  have hv : v = none := Outcome.returned.inj hv
  subst hv
  rw [h0] at hz hk
  have hA : ∀ a, zAx n ad H.size a → Γ.2.2.2.2.1 a := fun a h => by
    rcases h with ⟨q, hq, rfl⟩ | h
    · have := hW.2.2 q _ (zwl_get (cc := Γ.2.2.2.1) (sh := sh) (ad := ad) (μ := μ) hq)
      exact this
    · exact hG.1 a (Nat.le_trans hS.1 h)
  have hS' : va_S Γ.2.2.2.2.1 Γ.2.2.2.2.2.1 T'.heap (locs ++ L) := ⟨Nat.le_trans hS.1 (by rw [e1]; exact hz), fun q h1 h2 => by rw [e1, hk q (Nat.lt_of_lt_of_le h1 hS.1) (fun z => h2 (hA q z))]; exact hS.2.1 q h1 h2, fun q hq => by
      rcases List.mem_append.mp hq with h | h
      · exact hS.2.2 q h
      · exact hA _ (hL1 q h)⟩
  rw [zwl_sh hs'] at hP hD
  have hD2 : va_D Γ.2.2.2.2.1 (zwl Γ.2.2.2.1 n' sh' ad' μ') := hD.weaken (fun _ q _ h => hA q.1 h)
  obtain ⟨t2, a1, b1⟩ := kk ad' μ' (had.trans hg hn0) hp T'.heap (locs ++ L) ls ⟨by rw [e1]; exact hP, hD2⟩ hS' (hL.ext hg hlv) T' rfl X'
  refine ⟨t2, stp t2 ?_, b1⟩
  dsimp only at a1
  rw [zst_ext hg hst] at a1
  exact a1
theorem zY.callI {kc : zMth} {dc nv idx n' q mcc msc : Nat} {sh1 : Nat → zShc} {av rest : List Value} {post : zMem → Prop} (hc : Cn kc dc n sh (zP q :: av) μ n' sh1 mcc msc post) (hdd : dc + 1 ≤ d) (hk : zCal kc nv ∧ Cond.instanceMethod kc.1 ∈ zT) (hnv : av.length = nv) (hin : kc.1.name = "<init>") (hret : kc.2.2.2 = none) (hlk : Cond.methodLink k.1.cls idx kc.1 ∈ zT) (hrs : (rest.map fun v => v.category).sum ≤ 8) (hll : lv.length = k.2.2.1) (hG : zgrw Γ mc ms) (had : zag n0 ad0 ad) (hn0 : n0 ≤ n) (hs' : ∀ q, q < n' → sh1 q = sh' q) (hlv : zlwL n lv) (hst : zlwS n rest) (e2 : c1 = cs + mcc) (e3 : s1 = sl + msc) (hcm : c1 ≤ mc ∧ s1 ≤ ms)
    (hO : zok Γ k d) (hd : decode k.2.1 pc = .ok (.invokespecial idx, 3)) (kk : ∀ (ad' : Nat → Nat) (μ' : zMem), zag n0 ad0 ad' → post μ' → zY Γ (n', sh', ad', c1, s1) (pc + 3) lv rest μ') : zY Γ (n, sh, ad, cs, sl) pc lv (av.reverse ++ zP q :: rest) μ := by
  intro H locs ls hW hS hL
  have hst2 : (av.reverse ++ zP q :: rest).map (zcv ad) = (av.map (zcv ad)).reverse ++ .ref (ad q) :: rest.map (zcv ad) := by
    simp [List.map_reverse, zcv_P]
  dsimp only
  rw [hst2]
  obtain ⟨⟨h1, h2, h3, h4⟩, h5⟩ := hk
  have hts := hO.2.2.2.2.1
  have hM := hc Γ.1.2.1 Γ.2.2.1.2.2 Γ.2.2.2.1 ad H.size
  have hpre := zpreN hW.1 hW.2 hO.2.2.2.2.2.1 ((zP q :: av).map (zcv ad))
  have hfr := hO.2.2.2.2.2.2.2.1
  have hlo := hO.2.2.2.2.2.2.2.2.1
  have hrm : (zrmN dc mcc msc).frames + 1 ≤ Γ.1.2.2.2.frames ∧ 8 + (kc.2.2.1 + 11) + (zrmN dc mcc msc).locals ≤ Γ.1.2.2.2.locals := by
    show dc + 1 ≤ _ ∧ 8 + (kc.2.2.1 + 11) + 40 * dc ≤ _
    omega
  have hcw : CallB Γ.1.2.2.2 Γ.2.1.1 Γ.2.1.2.2.1 k.1.cls idx kc.1 kc.2.1 kc.2.2.1 none (zws kc) (zrmN dc mcc msc) mcc msc nv ∧ kc.1.name = "<init>" ∧ (Cond.instanceMethod kc.1).before Γ.2.1.2.2.1 Γ.2.1.1 = true :=
    cwI nv hts (zT_in h1) (by unfold zws; rw [hret]) rfl rfl (hts _ h2) (hts _ hlk) (hts _ h5) hin h3 hrm
  have hcm2 : cs + mcc ≤ Γ.1.2.2.2.cells ∧ sl + msc ≤ Γ.1.2.2.2.slots := by rw [hG.2.1, hG.2.2, ← e2, ← e3]; exact hcm
  intro T0 hT0 X0
  refine zbackN (va_runI (As := av.map (zcv ad)) (b := ad q) ⟨hO.1, hO.2.1, hO.2.2.1, hO.2.2.2.1, hts⟩ hM hcw hpre rfl (by simpa using hnv) ?_ rfl ?_ hd hcm2) hW hS hL hG had hn0 hs' hlv hst e2 e3 kk T0 hT0 X0
  · exact hL.1.trans hll
  · show 2 * 0 + _ ≤ 8
    rw [zmapcat]
    omega
theorem zY.callIN {kc : zMth} {dc nv idx n' q mcc msc : Nat} {host : String} {sh1 : Nat → zShc} {av rest : List Value} {post : zMem → Prop} (hc : Cn kc dc n sh (zP q :: av) μ n' sh1 mcc msc post) (hdd : dc + 1 ≤ d) (hk : zCal kc nv ∧ Cond.instanceMethod kc.1 ∈ zT) (hnv : av.length = nv) (hin : kc.1.name = "<init>") (hret : kc.2.2.2 = none) (hlk : (k.1.cls, idx, kc.1, host) ∈ zNest) (hrs : (rest.map fun v => v.category).sum ≤ 8) (hll : lv.length = k.2.2.1) (hG : zgrw Γ mc ms) (had : zag n0 ad0 ad) (hn0 : n0 ≤ n) (hs' : ∀ q, q < n' → sh1 q = sh' q) (hlv : zlwL n lv) (hst : zlwS n rest) (e2 : c1 = cs + mcc) (e3 : s1 = sl + msc) (hcm : c1 ≤ mc ∧ s1 ≤ ms)
    (hO : zok Γ k d) (hd : decode k.2.1 pc = .ok (.invokespecial idx, 3)) (kk : ∀ (ad' : Nat → Nat) (μ' : zMem), zag n0 ad0 ad' → post μ' → zY Γ (n', sh', ad', c1, s1) (pc + 3) lv rest μ') : zY Γ (n, sh, ad, cs, sl) pc lv (av.reverse ++ zP q :: rest) μ := by
  intro H locs ls hW hS hL
  have hst2 : (av.reverse ++ zP q :: rest).map (zcv ad) = (av.map (zcv ad)).reverse ++ .ref (ad q) :: rest.map (zcv ad) := by
    simp [List.map_reverse, zcv_P]
  dsimp only
  rw [hst2]
  obtain ⟨⟨h1, h2, h3, h4⟩, h5⟩ := hk
  have hts := hO.2.2.2.2.1
  have hM := hc Γ.1.2.1 Γ.2.2.1.2.2 Γ.2.2.2.1 ad H.size
  have hpre := zpreN hW.1 hW.2 hO.2.2.2.2.2.1 ((zP q :: av).map (zcv ad))
  have hfr := hO.2.2.2.2.2.2.2.1
  have hlo := hO.2.2.2.2.2.2.2.2.1
  have hrm : (zrmN dc mcc msc).frames + 1 ≤ Γ.1.2.2.2.frames ∧ 8 + (kc.2.2.1 + 11) + (zrmN dc mcc msc).locals ≤ Γ.1.2.2.2.locals := by
    show dc + 1 ≤ _ ∧ 8 + (kc.2.2.1 + 11) + 40 * dc ≤ _
    omega
  have hcw : va_CN Γ.1.2.2.2 Γ.2.1.1 Γ.2.1.2.2.1 k.1.cls idx kc.1 host kc.2.1 kc.2.2.1 none (zws kc) (zrmN dc mcc msc) mcc msc nv ∧ kc.1.name = "<init>" ∧ (Cond.instanceMethod kc.1).before Γ.2.1.2.2.1 Γ.2.1.1 = true :=
    ⟨va_cnB nv hts (zT_in h1) (by unfold zws; rw [hret]) rfl rfl (hO.2.2.2.2.2.1.2 _ hlk) (hts _ h2) h3 hrm, hin, hts _ h5⟩
  have hcm2 : cs + mcc ≤ Γ.1.2.2.2.cells ∧ sl + msc ≤ Γ.1.2.2.2.slots := by rw [hG.2.1, hG.2.2, ← e2, ← e3]; exact hcm
  intro T0 hT0 X0
  refine zbackN (va_runIN (As := av.map (zcv ad)) (b := ad q) ⟨hO.1, hO.2.1, hO.2.2.1, hO.2.2.2.1, hts⟩ hM hcw hpre rfl (by simpa using hnv) ?_ rfl ?_ hd hcm2) hW hS hL hG had hn0 hs' hlv hst e2 e3 kk T0 hT0 X0
  · exact hL.1.trans hll
  · show 2 * 0 + _ ≤ 8
    rw [zmapcat]
    omega
end ZGR
