/-! the law: its own rows -/
def R_law : String := "LeadPressLaw"
def lw_P (b : Addr) (xs : List Int32) (args : Array Value) (s : State) : Prop := args = #[.ref b] ∧ s.IntsAt b xs ∧ xs.length ≤ 1536 ∧ (Jvm.Cond.and given_1 narrow_1).before args s = true
def lw_Q (_ : Array Value) (s : State) (o : Outcome) (t : State) : Prop := o = .returned (some (.int 1)) ∧ Framed s o t [] 600000 7302250
def lw_Z (below : List Frame) (a : Array Value) (s : State) : State → Prop := fun t => ∃ o, t.status = .running ∧ Ended t below o ∧ lw_Q a s o t
/-- the law's own end, with 1 on the stack, nothing written that was there before, its room as the claim has it -/
theorem lw_ret {p : Program} {l : Launch} {e : Env} {s : State} {m : MethodId} {below : List Frame} {meth : Method} {c : Code} {b : Nat} (hx : p.tables.exec = Jvm.exec) (hb : c.code = code) (hr : meth.sig.returnType = ret) (hlocks : meth.locks = false) {pc : Nat} {H : Heap} {ls : Array Slot} (hdg : decode code pc = .ok (.ireturn, 1)) : W p l e room_1 s m #[Value.ref b] below meth c H [] 600000 7302250 (lw_Z below #[Value.ref b] s) (F0 m pc ls [.int 1]) := by
  intro T hT X
  obtain ⟨fs, hret, hrun, hended, hW, hframe⟩ := X.leave (v := some (.int 1)) (hlocks := hlocks) (fun h => by rw [hr] at h; cases h)
  have hmeth' : T.vm.method? m = some meth := X.method'
  refine ⟨T.setFrames fs, ?_, .returned (some (.int 1)), hrun, hended, rfl, ⟨_, rfl⟩, hW, hframe⟩
  jvm_step X.here [X.here.top, hx, hb, hdg, hmeth', hr, ret, narrow_b1]
  (try refine ⟨rfl, ?_⟩); (try refine ⟨rfl, ?_⟩)
  first | (intro acts; rw [hret _ acts rfl rfl rfl]) | rw [hret _ _ rfl rfl rfl]
  exact Steps.refl _
/-- what holds at the law's entry: the machine, the code, the tables' words (any of lw_tbl by 'hts w (by decide +kernel)'), the script of L ints xs at the cell b, what the Statement gives of the start (any of its parts by flat_of_before) -/
def lw_At (p : Program) (s : State) (m : MethodId) (meth : Method) (c : Code) (b L : Nat) (xs : Nat → Int32) : Prop :=
  p.tables.exec = Jvm.exec ∧ c.code = code ∧ meth.sig.returnType = ret ∧ c.maxLocals = 4 ∧ s.vm.findClass R_law = some m.cls ∧ (∀ w ∈ lw_tbl, w.before #[Value.ref b] s = true) ∧ va_X b L xs s s.heap ∧ b < s.heap.size ∧ meth.locks = false ∧ (Jvm.Cond.and given_1 narrow_1).before #[Value.ref b] s = true
abbrev kL_law : zMth := (yL_law, cL_law, 4, ret)
section ZLW
variable {Γ : zCx} {ω : zOm} {k : zMth} {d pc : Nat} {lv : List (Option Value)} {st : List Value} {μ : zMem}
/-- the script: L ints xs at the cell b, which is not of the world -/
def zSc (Γ : zCx) (b L : Nat) (xs : Nat → Int32) : Prop := va_X b L xs Γ.2.1.1 Γ.2.2.2.2.2.1 ∧ b < Γ.2.2.2.2.2.1.size ∧ ¬ Γ.2.2.2.2.1 b
theorem zY.sld {b L j : Nat} {xs : Nat → Int32} {i : Int} (hs : zSc Γ b L xs) (ha : ω.2.2.1 1000 = b) (hj : i = (j : Int)) (hl : j < L) (hL : L ≤ 100000) (hO : zok Γ k d) (hd : decode k.2.1 pc = .ok (.iaload, 1)) (kk : zY Γ ω (pc + 1) lv (zI (xs j).toInt :: st) μ) : zY Γ ω pc lv (zI i :: zP 1000 :: st) μ := by
  intro H locs ls hW hS hLv
  have hc : (Int32.ofInt i).toNatClampNeg = j := by rw [zr_clamp (by omega) (by omega)]; omega
  have h := kk H locs ls hW hS hLv
  show W _ _ _ _ _ _ _ _ _ _ _ _ _ _ _ (F0 _ _ _ (.int (Int32.ofInt i) :: .ref (ω.2.2.1 1000) :: st.map (zcv ω.2.2.1)))
  rw [ha]
  refine va_sld hO.1 hO.2.1 hs.1 hs.2.1 hs.2.2 hS (zr_in (by omega) (by omega) hL) hd ?_
  rw [hc]
  have e : (zI (xs j).toInt :: st).map (zcv ω.2.2.1) = .int (xs j) :: st.map (zcv ω.2.2.1) := by
    show Value.int (Int32.ofInt (xs j).toInt) :: _ = _
    rw [Int32.ofInt_toInt]
  rw [e] at h
  exact h
theorem zY.slen {b L : Nat} {xs : Nat → Int32} (hs : zSc Γ b L xs) (ha : ω.2.2.1 1000 = b) (hO : zok Γ k d) (hd : decode k.2.1 pc = .ok (.arraylength, 1)) (kk : zY Γ ω (pc + 1) lv (zI (L : Int) :: st) μ) : zY Γ ω pc lv (zP 1000 :: st) μ := by
  intro H locs ls hW hS hLv
  have h := kk H locs ls hW hS hLv
  show W _ _ _ _ _ _ _ _ _ _ _ _ _ _ _ (F0 _ _ _ (.ref (ω.2.2.1 1000) :: st.map (zcv ω.2.2.1)))
  rw [ha]
  refine va_slen hO.1 hO.2.1 hs.1 hs.2.1 hs.2.2 hS hd ?_
  have e : (zI (L : Int) :: st).map (zcv ω.2.2.1) = .int (Int32.ofNat L) :: st.map (zcv ω.2.2.1) := by
    show Value.int (Int32.ofInt (L : Int)) :: _ = _
    rw [Int32.ofInt_eq_ofNat]
  rw [e] at h
  exact h
theorem zY.icmp_same {a off : Int} {tgt : Nat} (hO : zok Γ k d) (hd : decode k.2.1 pc = .ok (.if_icmp .eq off, 3)) (ht : (pc : Int) + off = (tgt : Int)) (kt : zY Γ ω tgt lv st μ) : zY Γ ω pc lv (zI a :: zI a :: st) μ :=
  fun H locs ls hW hS hL => lv_icmp_eq hO.1 hO.2.1 hd ht (fun _ => kt H locs ls hW hS hL) (fun h => absurd rfl h)
theorem zY.astore1 {o0 o1 : Option Value} {q : Nat} (hp : zc1 o0) (hO : zok Γ k d) (hd : decode k.2.1 pc = .ok (.astore_n 1, 1)) (kk : zY Γ ω (pc + 1) (o0 :: some (zP q) :: lv) st μ) : zY Γ ω pc (o0 :: o1 :: lv) (zP q :: st) μ :=
  fun H locs ls hW hS hL => lv_astore_n (i := 1) hO.1 hO.2.1 hd rfl hL.has (by simp) rfl (fun ls' h' => kk H locs ls' hW hS (zLv.put1 (v := zP q) (lv := o0 :: o1 :: lv) (i := 1) (by simp) (fun o ho => by cases ho; exact Or.inr hp) h'))
theorem zY.astore2 {o0 o1 o2 : Option Value} {q : Nat} (hp : zc1 o1) (hO : zok Γ k d) (hd : decode k.2.1 pc = .ok (.astore_n 2, 1)) (kk : zY Γ ω (pc + 1) (o0 :: o1 :: some (zP q) :: lv) st μ) : zY Γ ω pc (o0 :: o1 :: o2 :: lv) (zP q :: st) μ :=
  fun H locs ls hW hS hL => lv_astore_n (i := 2) hO.1 hO.2.1 hd rfl hL.has (by simp) rfl (fun ls' h' => kk H locs ls' hW hS (zLv.put1 (v := zP q) (lv := o0 :: o1 :: o2 :: lv) (i := 2) (by simp) (fun o ho => by cases ho; exact Or.inr hp) h'))
/-- where the law ends -/
def zLe (Γ : zCx) (b : Nat) : Prop := Γ.2.2.2.2.2.2 = lw_Z Γ.2.1.2.2.2 #[Value.ref b] Γ.2.1.1 ∧ Γ.1.2.2.2 = room_1 ∧ Γ.2.1.2.2.1 = #[Value.ref b] ∧ Γ.2.2.2.2.1 = fun q => Γ.2.1.1.heap.size ≤ q
end ZLW
theorem zY.lawret {Γ : zCx} {b d pc n cs sl : Nat} {sh : Nat → zShc} {ad : Nat → Nat} {lv : List (Option Value)} {μ : zMem} (he : zLe Γ b) (hc : cs ≤ 600000) (hl : sl ≤ 7302250) (hO : zok Γ kL_law d) (hd : decode code pc = .ok (.ireturn, 1)) : zY Γ (n, sh, ad, cs, sl) pc lv [zI 1] μ := by
  intro H locs ls hW hS hL
  obtain ⟨⟨p, l, e, R⟩, ⟨s, m, args, below⟩, ⟨meth, c, D⟩, ⟨cc, A, H0, Q⟩⟩ := Γ
  obtain ⟨h1, h2, h3, h4⟩ := he
  dsimp only at h1 h2 h3 h4 hS
  subst h1 h2 h3 h4
  refine va_forget (fun q hq => hS.2.2 q hq) ?_
  refine W.widen hc hl ?_
  exact lw_ret hO.1 hO.2.1 hO.2.2.2.2.2.2.2.2.2 hO.2.2.2.2.2.2.1 hd
theorem zand31 (x : Int) : ∃ c : Nat, c < 32 ∧ Int32.ofInt x &&& Int32.ofInt 31 = Int32.ofInt (c : Int) := by
  refine ⟨(Int32.ofInt x).toBitVec.toNat % 32, Nat.mod_lt _ (by decide), ?_⟩
  apply Int32.toBitVec_inj.mp
  rw [Int32.toBitVec_and]
  apply BitVec.eq_of_toNat_eq
  rw [BitVec.toNat_and]
  have h1 : ∀ m : Nat, (Int32.ofInt (m : Int)).toBitVec.toNat = m % 4294967296 := by
    intro m
    show (BitVec.ofInt 32 (m : Int)).toNat = m % 4294967296
    simp
  rw [h1, show (Int32.ofInt 31).toBitVec.toNat = 2 ^ 5 - 1 by decide, Nat.and_two_pow_sub_one_eq_mod]
  omega
theorem zrI (x : Int32) : zr x.toInt := by
  have h1 := Int32.le_toInt x
  have h2 := Int32.toInt_lt x
  exact ⟨by omega, by omega⟩
theorem zd_SX {p : Nat} : ∀ q, zd p zSX q = zSX q := fun q => by
  rcases Nat.lt_or_ge q p with h | h
  · exact zd_lt h
  · exact zd_ge h
theorem zsok_127 : zsok 127 zSX := by
  unfold zsok
  decide +kernel
theorem zLv_entry {av : List Value} {n : Nat} {ad : Nat → Nat} {lv : List (Option Value)} (hlv : zent av n = lv) (hlen : (zent1 av).length ≤ n) : zLv ad ((lg_sl (av.map (zcv ad)) ++ List.replicate (n - (lg_sl (av.map (zcv ad))).length) Slot.unset).toArray) lv := by
  have hlen' : (lg_sl (av.map (zcv ad))).length ≤ n := by rw [zent1_len]; exact hlen
  have hl := lv_entry (av.map (zcv ad)) hlen'
  refine zLv.of hl ?_ (fun j v hj => ?_)
  · rw [← hlv, zent, List.length_append, List.length_replicate]
    omega
  · rw [← hlv, zent] at hj
    by_cases hjl : j < (zent1 av).length
    · rw [List.getElem?_append_left hjl] at hj
      have := zent1_in ad av 0 j v hj
      rwa [Nat.zero_add] at this
    · rw [List.getElem?_append_right (by omega)] at hj
      have := List.mem_of_getElem? hj
      rw [List.mem_replicate] at this
      cases this.2
/-! what the one side does leaves the other one as it is -/
theorem zMd_hi {D : zBk} {K0 K1 : Option zBk} {μ μ' : zMem} (h : zMd D K0 K1 μ) (he : ∀ q, 127 ≤ q → μ' q = μ q) : zMd D K0 K1 μ' :=
  ⟨h.1, h.2.1.keep (fun q a _ => he q (by omega)) (fun j _ => by rw [he 127 (by decide)]), ⟨fun j hj => by rw [he 136 (by decide)]; exact h.2.2.1.1 j hj, by rw [he 127 (by decide)]; exact h.2.2.1.2⟩,
   h.2.2.2.1.keep (he 148 (by decide)) (he 149 (by decide)), h.2.2.2.2.keep (he 148 (by decide)) (he 149 (by decide))⟩
theorem zRX_lo {D : zBk} {K0 K1 : Option zBk} {μ μ' : zMem} (h : zRX D K0 K1 μ) (he : ∀ q, q < 127 → μ' q = μ q) : zRX D K0 K1 μ' :=
  ⟨h.1, h.2.1.row (fun q _ h2 => he q (by omega)), ⟨fun j hj => by rw [he 20 (by decide)]; exact h.2.2.1.1 j hj, by rw [he 18 (by decide)]; exact h.2.2.1.2⟩, h.2.2.2.1.row (fun q _ h2 => he q (by omega)), h.2.2.2.2.row (fun q _ h2 => he q (by omega))⟩
theorem zCho_of {μ μ' : zMem} (h : zCho μ) (he : μ' 108 = μ 108) : zCho μ' := fun j hj => by rw [he]; exact h j hj
theorem zScr.lo {μ μ' : zMem} (h : zScr μ μ') : ∀ q, q < 127 → μ' q = μ q := fun q hq => h.1 q (Or.inl (by omega))
/-! image, restore: all their answers -/
def zA_im (v : Int) : Int := if 0 ≤ v ∧ v ≤ 1 then 1 else -2
def zKi (D : zBk) (K : Option zBk) (n v : Int) : Option zBk := if v = n then some D else K
def zA_rs (K0 K1 : Option zBk) (v : Int) : Int := if v = 0 then (match K0 with | none => -3 | some _ => 1) else if v = 1 then (match K1 with | none => -3 | some _ => 1) else -2
def zU_rs (D : zBk) (K0 K1 : Option zBk) (v : Int) : zBk := if v = 0 then (match K0 with | none => D | some K => zRes D K) else if v = 1 then (match K1 with | none => D | some K => zRes D K) else D
section ZIR
variable {μ : zMem} {D : zBk} {K0 K1 : Option zBk}
theorem cu_X10_image (hX : zRX D K0 K1 μ) {v : Int} (hv : zr v) : Ci kX10_image 6 150 zSX [zP 0, zI v] μ (fun a μ' => a = zA_im v ∧ zRX D (zKi D K0 0 v) (zKi D K1 1 v) μ' ∧ zSame 0 56 μ μ') := by
  by_cases h0 : v = 0
  · subst h0
    exact (ct_image0 hX).imp (fun a μ' h => h)
  · by_cases h1 : v = 1
    · subst h1
      exact (ct_image1 hX).imp (fun a μ' h => h)
    · refine (ct_imageN hX hv (by omega)).imp (fun a μ' h => ?_)
      obtain ⟨rfl, rfl⟩ := h
      unfold zA_im zKi
      rw [if_neg (by omega), if_neg h0, if_neg h1]
      exact ⟨rfl, hX, zSame.rfl'⟩
theorem cu_X10_restore (hX : zRX D K0 K1 μ) {v : Int} (hv : zr v) : Ci kX10_restore 6 150 zSX [zP 0, zI v] μ (fun a μ' => a = zA_rs K0 K1 v ∧ zRX (zU_rs D K0 K1 v) K0 K1 μ' ∧ zSame 0 56 μ μ') := by
  unfold zA_rs zU_rs
  by_cases h0 : v = 0
  · subst h0
    refine (ct_restore0 hX).imp (fun a μ' h => ?_)
    rcases h with ⟨rfl, rfl, rfl⟩ | ⟨K, rfl, rfl, h2, h3⟩
    · exact ⟨rfl, hX, zSame.rfl'⟩
    · exact ⟨rfl, h2, h3⟩
  · rw [if_neg h0, if_neg h0]
    by_cases h1 : v = 1
    · subst h1
      refine (ct_restore1 hX).imp (fun a μ' h => ?_)
      rcases h with ⟨rfl, rfl, rfl⟩ | ⟨K, rfl, rfl, h2, h3⟩
      · exact ⟨rfl, hX, zSame.rfl'⟩
      · exact ⟨rfl, h2, h3⟩
    · rw [if_neg h1, if_neg h1]
      refine (ct_restoreN hX hv (by omega)).imp (fun a μ' h => ?_)
      obtain ⟨rfl, rfl⟩ := h
      exact ⟨rfl, hX, zSame.rfl'⟩
theorem cu_X11_image (hM : zMd D K0 K1 μ) {v : Int} (hv : zr v) : Ci kX11_image 4 150 zSX [zP 127, zI v] μ (fun a μ' => a = zA_im v ∧ zMd D (zKi D K0 0 v) (zKi D K1 1 v) μ' ∧ ∀ q, q < 127 → μ' q = μ q) := by
  by_cases h0 : v = 0
  · subst h0
    exact (ct_X11_image hM (nn := 0) (by decide)).imp (fun a μ' h => h)
  · by_cases h1 : v = 1
    · subst h1
      exact (ct_X11_image hM (nn := 1) (by decide)).imp (fun a μ' h => h)
    · refine (ct_X11_imageN hM hv (by omega)).imp (fun a μ' h => ?_)
      obtain ⟨rfl, rfl⟩ := h
      unfold zA_im zKi
      rw [if_neg (by omega), if_neg h0, if_neg h1]
      exact ⟨rfl, hM, fun _ _ => rfl⟩
theorem cu_X11_restore (hM : zMd D K0 K1 μ) {v : Int} (hv : zr v) : Ci kX11_restore 4 150 zSX [zP 127, zI v] μ (fun a μ' => a = zA_rs K0 K1 v ∧ zMd (zU_rs D K0 K1 v) K0 K1 μ' ∧ ∀ q, q < 127 → μ' q = μ q) := by
  unfold zA_rs zU_rs
  by_cases h0 : v = 0
  · subst h0
    refine (ct_X11_restore hM (nn := 0) (by decide)).imp (fun a μ' h => ?_)
    rw [if_pos rfl] at h
    rcases h with ⟨rfl, rfl, rfl⟩ | ⟨K, rfl, rfl, h2, h3⟩
    · exact ⟨rfl, hM, fun _ _ => rfl⟩
    · exact ⟨rfl, h2, h3⟩
  · rw [if_neg h0, if_neg h0]
    by_cases h1 : v = 1
    · subst h1
      refine (ct_X11_restore hM (nn := 1) (by decide)).imp (fun a μ' h => ?_)
      rw [if_neg (by decide)] at h
      rcases h with ⟨rfl, rfl, rfl⟩ | ⟨K, rfl, rfl, h2, h3⟩
      · exact ⟨rfl, hM, fun _ _ => rfl⟩
      · exact ⟨rfl, h2, h3⟩
    · rw [if_neg h1, if_neg h1]
      refine (ct_X11_restoreN hM hv (by omega)).imp (fun a μ' h => ?_)
      obtain ⟨rfl, rfl⟩ := h
      exact ⟨rfl, hM, fun _ _ => rfl⟩
end ZIR
