/-! THE LIGHT LAYER: a judgement zY over the machine's W, in which a state is: the pc, the locals as a list, the operand stack, and one memory of whole numbers
(place, index). A place is a number of a cell in the world; the world's shape (which cell is what) is a function from places. -/
abbrev zMth : Type := MethodName × ByteArray × Nat × Option FieldType
abbrev zShc : Type := Nat × Nat × List (Nat × Nat)
abbrev zMem : Type := Nat → Nat → Int
abbrev zOm : Type := Nat × (Nat → zShc) × (Nat → Nat) × Nat × Nat
abbrev zC3 : Type := ClassId × ClassId × ClassId
def zI (a : Int) : Value := .int (Int32.ofInt a)
def zJ (a : Int) : Value := .long (Int64.ofInt a)
def zP (q : Nat) : Value := .ref q
/-- an int's range -/
abbrev zr (a : Int) : Prop := -2147483648 ≤ a ∧ a ≤ 2147483647
/-- a long's range -/
abbrev zrl (a : Int) : Prop := -9223372036854775808 ≤ a ∧ a ≤ 9223372036854775807
def zcv (ad : Nat → Nat) : Value → Value
  | .ref q => .ref (ad q)
  | v => v
theorem zcv_I (ad : Nat → Nat) (a : Int) : zcv ad (zI a) = .int (Int32.ofInt a) := rfl
theorem zcv_J (ad : Nat → Nat) (a : Int) : zcv ad (zJ a) = .long (Int64.ofInt a) := rfl
theorem zcv_P (ad : Nat → Nat) (q : Nat) : zcv ad (zP q) = .ref (ad q) := rfl
theorem zcv_cat (ad : Nat → Nat) (v : Value) : (zcv ad v).category = v.category := by cases v <;> rfl
/-- a field of a cell: 0 a place, 1 an int, 2 a long, else null -/
def zfv (ad : Nat → Nat) (t : Nat × Nat) (a : Int) : Value := match t.1 with
  | 0 => .ref (ad t.2)
  | 1 => .int (Int32.ofInt a)
  | 2 => .long (Int64.ofInt a)
  | _ => .null
def zfs (ad : Nat → Nat) (fl : List (Nat × Nat)) (f : Nat → Int) : List Value := fl.zipIdx.map (fun p => zfv ad p.1 (f p.2))
/-- a cell: 0 an object (class, fields), 1 ints, 2 longs, else booleans -/
def zce (cc : zC3) (ad : Nat → Nat) (s : zShc) (f : Nat → Int) : va_E := match s.1 with
  | 0 => .inr (s.2.1, zfs ad s.2.2 f)
  | 1 => .inl (cc.1, (s.2.1, .inl (fun j => Int32.ofInt (f j))))
  | 2 => .inl (cc.2.1, (s.2.1, .inr (.inl (fun j => Int64.ofInt (f j)))))
  | _ => .inl (cc.2.2, (s.2.1, .inl (fun j => Int32.ofInt (f j))))
def zwl (cc : zC3) (n : Nat) (sh : Nat → zShc) (ad : Nat → Nat) (μ : zMem) : va_W := (List.range n).map (fun q => (ad q, zce cc ad (sh q) (μ q)))
theorem zwl_get {cc : zC3} {n : Nat} {sh : Nat → zShc} {ad : Nat → Nat} {μ : zMem} {q : Nat} (h : q < n) : (zwl cc n sh ad μ)[q]? = some (ad q, zce cc ad (sh q) (μ q)) := by
  simp [zwl, h]
theorem zwl_len {cc : zC3} {n : Nat} {sh : Nat → zShc} {ad : Nat → Nat} {μ : zMem} : (zwl cc n sh ad μ).length = n := by simp [zwl]
theorem zwl_of {cc : zC3} {n : Nat} {sh : Nat → zShc} {ad : Nat → Nat} {μ : zMem} {k : Nat} {x : Nat × va_E} (h : (zwl cc n sh ad μ)[k]? = some x) : k < n ∧ x = (ad k, zce cc ad (sh k) (μ k)) := by
  have hk : k < n := by
    have := (List.getElem?_eq_some_iff.mp h).1
    rwa [zwl_len] at this
  rw [zwl_get hk] at h
  exact ⟨hk, (Option.some.inj h).symm⟩
theorem zwl_set {cc : zC3} {n : Nat} {sh : Nat → zShc} {ad : Nat → Nat} {μ μ' : zMem} {q : Nat} {e : va_E} (h : q < n) (he : zce cc ad (sh q) (μ' q) = e) (ho : ∀ k, k ≠ q → μ' k = μ k) : (zwl cc n sh ad μ).set q (ad q, e) = zwl cc n sh ad μ' := by
  apply List.ext_getElem?
  intro k
  by_cases hk : k < n
  · rw [zwl_get hk]
    by_cases hq : k = q
    · subst hq
      rw [List.getElem?_set_self (by rw [zwl_len]; exact hk), he]
    · rw [List.getElem?_set_ne (fun x => hq x.symm), zwl_get hk, ho k hq]
  · rw [List.getElem?_eq_none (by rw [List.length_set, zwl_len]; omega), List.getElem?_eq_none (by rw [zwl_len]; omega)]
theorem zwl_D {cc : zC3} {n : Nat} {sh sh' : Nat → zShc} {ad : Nat → Nat} {μ μ' : zMem} {A : Nat → Prop} (h : va_D A (zwl cc n sh ad μ)) : va_D A (zwl cc n sh' ad μ') := by
  refine ⟨fun i j p q hi hj hpq => ?_, fun k q hk => ?_⟩
  · obtain ⟨h1, rfl⟩ := zwl_of hi
    obtain ⟨h2, rfl⟩ := zwl_of hj
    exact h.1 i j _ _ (zwl_get (cc := cc) (sh := sh) (ad := ad) (μ := μ) h1) (zwl_get (cc := cc) (sh := sh) (ad := ad) (μ := μ) h2) hpq
  · obtain ⟨h1, rfl⟩ := zwl_of hk
    have h2 := h.2 k _ (zwl_get (cc := cc) (sh := sh) (ad := ad) (μ := μ) h1)
    exact h2
/-- one number of the memory -/
def zwr (μ : zMem) (q k : Nat) (a : Int) : zMem := fun q' k' => if q' = q then (if k' = k then a else μ q' k') else μ q' k'
theorem zwr_ne {μ : zMem} {q k : Nat} {a : Int} {q' : Nat} (h : q' ≠ q) : zwr μ q k a q' = μ q' := by funext j; simp [zwr, h]
theorem zfs_get {ad : Nat → Nat} {fl : List (Nat × Nat)} {f : Nat → Int} {k : Nat} {t : Nat × Nat} (h : fl[k]? = some t) : (zfs ad fl f)[k]? = some (zfv ad t (f k)) := by
  simp [zfs, h]
theorem zfs_len {ad : Nat → Nat} {fl : List (Nat × Nat)} {f : Nat → Int} : (zfs ad fl f).length = fl.length := by simp [zfs]
theorem zfs_set {ad : Nat → Nat} {fl : List (Nat × Nat)} {f f' : Nat → Int} {k : Nat} {t : Nat × Nat} {v : Value} (h : fl[k]? = some t) (hv : zfv ad t (f' k) = v) (ho : ∀ j, j ≠ k → f' j = f j) : (zfs ad fl f).set k v = zfs ad fl f' := by
  have hk : k < fl.length := (List.getElem?_eq_some_iff.mp h).1
  apply List.ext_getElem?
  intro j
  by_cases hj : j < fl.length
  · have hgj : fl[j]? = some fl[j] := List.getElem?_eq_getElem hj
    rw [zfs_get hgj]
    by_cases hq : j = k
    · subst hq
      rw [List.getElem?_set_self (by rw [zfs_len]; exact hj)]
      rw [h] at hgj
      cases hgj
      rw [hv]
    · rw [List.getElem?_set_ne (fun x => hq x.symm), zfs_get hgj, ho j hq]
  · rw [List.getElem?_eq_none (by rw [List.length_set, zfs_len]; omega), List.getElem?_eq_none (by rw [zfs_len]; omega)]
/-! the words: one list for all -/
def zT : List Cond := lw_tbl.filter goodWord
def zws (k : zMth) : List Cond := Cond.code k.1 k.2.1 k.2.2.1 k.2.2.2 :: zT
theorem zT_mem {w : Cond} (i : Nat) (h : lw_tbl[i]? = some w) (hg : goodWord w = true) : w ∈ zT := List.mem_filter.mpr ⟨List.mem_of_getElem? h, hg⟩
theorem zT_good {w : Cond} (h : w ∈ zT) : (w.onTables && w.keeps) = true ∨ ∃ ty, w = .arrayClass ty := good_of_word (List.mem_filter.mp h).2
theorem zT_in {k : zMth} (h : Cond.code k.1 k.2.1 k.2.2.1 k.2.2.2 ∈ zT) : GoodIn zT (zws k) := by
  intro w hw
  have h2 : w ∈ zT := by
    rcases List.mem_cons.mp hw with rfl | hw
    · exact h
    · exact hw
  exact ⟨h2, zT_good h2⟩
def zNest : List (String × Nat × MethodName × String) := [(RX10, 18, yX3_init, RX10), (RX10, 25, yX2_init, RX10), (RX10, 44, yX9_init, RX10), (RX9, 22, yX7_init, RX10), (RX10, 51, yX8_init, RX10), (RX8, 22, yX7_init, RX10), (RX1, 22, yX7_init, RX10), (RX10, 65, yX4_init, RX10), (RX4, 22, yX7_init, RX10), (RX3, 40, yX10_within, RX10), (RX3, 47, yX10_isSheet, RX10), (RX3, 51, yX10_has, RX10), (RX0, 44, yX10_has, RX10), (RX9, 78, yX10_has, RX10), (RX6, 86, yX10_has, RX10)]
def zNw (U : State) : Prop := ∀ q ∈ zNest, va_Nw (.methodLinkNest q.1 q.2.1 q.2.2.1 q.2.2.2) U
def zK (D : va_G) (cc : zC3) (U : State) : Prop := va_K D vwCl [(cc.1, .int), (cc.2.1, .long), (cc.2.2, .boolean)] U ∧ zNw U
theorem zK.warm {D : va_G} {cc : zC3} {s U : State} (hW : s.WarmedH U.vm) (h : zK D cc s) : zK D cc U := ⟨va_K.moved hW.alike h.1, fun q hq => va_Nw.warmM hW (h.2 q hq)⟩
theorem zK.calling {D : va_G} {cc : zC3} {U : State} {g : JFrame} {mk : MethodId} {a : Array Value} (h : zK D cc U) : zK D cc (U.calling g mk a) := ⟨va_K.moved (u := U) (U := U.calling g mk a) (Vm.Alike.refl U.vm) h.1, fun q hq => va_Nw.same rfl (u := U) (U := U.calling g mk a) rfl (h.2 q hq)⟩
/-! the judgement -/
abbrev zCx : Type := (Program × Launch × Env × Room) × (State × MethodId × Array Value × List Frame) × (Method × Code × va_G) × (zC3 × (Nat → Prop) × Heap × (State → Prop))
def zLv (ad : Nat → Nat) (ls : Array Slot) (lv : List (Option Value)) : Prop := ls.size = lv.length ∧ lv_wf ls ∧ ∀ (k : Nat) (v : Value), lv[k]? = some (some v) → ls[k]? = some (.val (zcv ad v))
def zWd (Γ : zCx) (ω : zOm) (μ : zMem) (H : Heap) : Prop := va_P Γ.2.2.1.2.2 vwCl (zwl Γ.2.2.2.1 ω.1 ω.2.1 ω.2.2.1 μ) H ∧ va_D Γ.2.2.2.2.1 (zwl Γ.2.2.2.1 ω.1 ω.2.1 ω.2.2.1 μ)
def zY (Γ : zCx) (ω : zOm) (pc : Nat) (lv : List (Option Value)) (st : List Value) (μ : zMem) : Prop :=
  ∀ (H : Heap) (locs : List Loc) (ls : Array Slot), zWd Γ ω μ H → va_S Γ.2.2.2.2.1 Γ.2.2.2.2.2.1 H locs → zLv ω.2.2.1 ls lv →
    W Γ.1.1 Γ.1.2.1 Γ.1.2.2.1 Γ.1.2.2.2 Γ.2.1.1 Γ.2.1.2.1 Γ.2.1.2.2.1 Γ.2.1.2.2.2 Γ.2.2.1.1 Γ.2.2.1.2.1 H locs ω.2.2.2.1 ω.2.2.2.2 Γ.2.2.2.2.2.2 (F0 Γ.2.1.2.1 pc ls (st.map (zcv ω.2.2.1)))
/-- what holds all through a method's body -/
def zok (Γ : zCx) (k : zMth) (d : Nat) : Prop :=
  Γ.1.1.tables.exec = Jvm.exec ∧ Γ.2.2.1.2.1.code = k.2.1 ∧ Γ.2.2.1.2.1.maxLocals = k.2.2.1 ∧ Γ.2.1.1.vm.findClass k.1.cls = some Γ.2.1.2.1.cls ∧ (∀ w ∈ zT, w.before Γ.2.1.2.2.1 Γ.2.1.1 = true) ∧
  zK Γ.2.2.1.2.2 Γ.2.2.2.1 Γ.2.1.1 ∧ Γ.2.2.1.1.locks = false ∧ d ≤ Γ.1.2.2.2.frames ∧ 40 * d ≤ Γ.1.2.2.2.locals ∧ Γ.2.2.1.1.sig.returnType = k.2.2.2
