/-! contracts, calls, answers -/
def zrm (d : Nat) : Room := { frames := d, cells := 0, slots := 0, locals := 40 * d }
def zAw (n : Nat) (ad : Nat → Nat) : Nat → Prop := fun a => ∃ q, q < n ∧ a = ad q
/-- what a method that makes nothing does: from memory μ, with these arguments, it returns an answer and a memory of which 'post' tells -/
def Ct (k : zMth) (d n : Nat) (sh : Nat → zShc) (av : List Value) (μ : zMem) (post : Option Value → zMem → Prop) : Prop :=
  ∀ (l : Launch) (D : va_G) (cc : zC3) (ad : Nat → Nat), Met l k.1 (zws k) (zrm d)
    (va_Pc (av.map (zcv ad)) (fun U => va_P D vwCl (zwl cc n sh ad μ) U.heap ∧ va_D (fun _ => True) (zwl cc n sh ad μ) ∧ zK D cc U))
    (fun _ st o t => (∃ (r : Option Value) (μ' : zMem), o = .returned (r.map (zcv ad)) ∧ post r μ' ∧ va_P D vwCl (zwl cc n sh ad μ') t.heap) ∧ va_F (zAw n ad) st t)
    0 0 (zAw n ad)
theorem Ct.weaken {k : zMth} {d n : Nat} {sh : Nat → zShc} {av : List Value} {μ : zMem} {post post' : Option Value → zMem → Prop} (h : Ct k d n sh av μ post) (hp : ∀ r μ', post r μ' → post' r μ') : Ct k d n sh av μ post' := by
  intro l D cc ad p e ha hc hk s m args below hf happ hpre hK
  obtain ⟨t, o, h1, h2, h3, ⟨⟨⟨r, μ', a1, a2, a3⟩, a4⟩, a5⟩⟩ := h l D cc ad p e ha hc hk s m args below hf happ hpre hK
  exact ⟨t, o, h1, h2, h3, ⟨⟨⟨r, μ', a1, hp _ _ a2, a3⟩, a4⟩, a5⟩⟩
/-- what the end of a body has to show -/
def zrt (Γ : zCx) (n : Nat) (sh : Nat → zShc) (ad : Nat → Nat) (post : Option Value → zMem → Prop) : Prop :=
  Γ.2.2.2.2.1 = zAw n ad ∧ Γ.2.2.2.2.2.1 = Γ.2.1.1.heap ∧ Γ.2.2.2.2.2.2 = MQ Γ.2.1.2.2.2 (fun _ st o t => (∃ (r : Option Value) (μ' : zMem), o = .returned (r.map (zcv ad)) ∧ post r μ' ∧ va_P Γ.2.2.1.2.2 vwCl (zwl Γ.2.2.2.1 n sh ad μ') t.heap) ∧ va_F (zAw n ad) st t) Γ.2.1.2.2.1 Γ.2.1.1 0 0 (zAw n ad)
def zent1 : List Value → List (Option Value)
  | [] => []
  | v :: l => if v.category = 2 then some v :: none :: zent1 l else some v :: zent1 l
def zent (av : List Value) (n : Nat) : List (Option Value) := zent1 av ++ List.replicate (n - (zent1 av).length) none
theorem zent1_len (ad : Nat → Nat) : ∀ av : List Value, (lg_sl (av.map (zcv ad))).length = (zent1 av).length
  | [] => rfl
  | v :: l => by
    have h := zent1_len ad l
    by_cases hv : v.category = 2
    · simp only [zent1, hv, if_true, List.length_cons, List.map_cons]
      rw [← h]
      simp [lg_sl, zcv_cat, hv, Nat.add_comm]
    · simp only [zent1, hv, if_false, List.length_cons, List.map_cons]
      rw [← h]
      simp [lg_sl, zcv_cat, hv, Nat.add_comm]
theorem zent1_in (ad : Nat → Nat) : ∀ (av : List Value) (b k : Nat) (v : Value), (zent1 av)[k]? = some (some v) → (b + k, zcv ad v) ∈ lv_args b (av.map (zcv ad))
  | [], b, k, v, h => by simp [zent1] at h
  | w :: l, b, k, v, h => by
    by_cases hw : w.category = 2
    · simp only [zent1, hw, if_true] at h
      simp only [List.map_cons, lv_args, zcv_cat, hw, if_true]
      match k, h with
      | 0, h => cases h; exact List.mem_cons_self
      | 1, h => cases h
      | k + 2, h =>
        have := zent1_in ad l (b + 2) k v (by simpa using h)
        rw [show b + (k + 2) = b + 2 + k by omega]
        exact List.mem_cons_of_mem _ this
    · simp only [zent1, hw, if_false] at h
      simp only [List.map_cons, lv_args, zcv_cat, hw, if_false]
      match k, h with
      | 0, h => cases h; exact List.mem_cons_self
      | k + 1, h =>
        have := zent1_in ad l (b + 1) k v (by simpa using h)
        rw [show b + (k + 1) = b + 1 + k by omega]
        exact List.mem_cons_of_mem _ this
theorem Ct.of {k : zMth} {d n : Nat} {sh : Nat → zShc} {av : List Value} {μ : zMem} {post : Option Value → zMem → Prop} (lv : List (Option Value)) (hlv : zent av k.2.2.1 = lv) (hlen : (zent1 av).length ≤ k.2.2.1) (hy : plainName k.1.cls = true)
    (body : ∀ (Γ : zCx) (ad : Nat → Nat), zok Γ k d → zrt Γ n sh ad post → zY Γ (n, sh, ad, 0, 0) 0 lv [] μ) : Ct k d n sh av μ post := by
  intro l D cc ad
  refine Met.ofW (cc := k.2.1) (maxL := k.2.2.1) (ret := k.2.2.2) hy rfl ?_
  intro p e s m args below meth c s₁ B hml hv
  obtain ⟨rfl, hP, hD, hK⟩ := hv
  have hts := atoms_spec (ws := zws k) B.pre
  have hown : s.vm.findClass k.1.cls = some m.cls := findClass_of_methodNamed B.named
  have hDA : va_D (zAw n ad) (zwl cc n sh ad μ) := ⟨hD.1, fun q x hx => by
    obtain ⟨h1, rfl⟩ := zwl_of hx
    exact ⟨q, h1, rfl⟩⟩
  have h0 := body ((p, l, e, (headSpec (zws k) (zrm d)).room), (s, m, (av.map (zcv ad)).toArray, below), (meth, c, D), (cc, zAw n ad, s.heap, MQ below (fun _ st o t => (∃ (r : Option Value) (μ' : zMem), o = .returned (r.map (zcv ad)) ∧ post r μ' ∧ va_P D vwCl (zwl cc n sh ad μ') t.heap) ∧ va_F (zAw n ad) st t) (av.map (zcv ad)).toArray s 0 0 (zAw n ad))) ad
    ⟨B.exec, B.bytes, hml, hown, fun w hw => hts w (List.mem_cons_of_mem _ hw), hK, B.notSynchronized, Nat.le_refl _, Nat.le_refl _, B.returns⟩ ⟨rfl, rfl, rfl⟩
  have hlen' : (lg_sl (av.map (zcv ad))).length ≤ k.2.2.1 := by rw [zent1_len]; exact hlen
  have hl := lv_entry (av.map (zcv ad)) hlen'
  rw [lg_entry_eq]
  have hL : zLv ad ((lg_sl (av.map (zcv ad)) ++ List.replicate (k.2.2.1 - (lg_sl (av.map (zcv ad))).length) Slot.unset).toArray) lv := by
    refine zLv.of hl ?_ (fun j v hj => ?_)
    · rw [← hlv, zent, List.length_append, List.length_replicate]
      omega
    · rw [← hlv, zent] at hj
      by_cases hjl : j < (zent1 av).length
      · rw [List.getElem?_append_left hjl] at hj
        have := zent1_in ad av 0 j v hj
        rwa [Nat.zero_add] at this
      · rw [List.getElem?_append_right (by omega)] at hj
        have := List.mem_of_getElem? hj
        rw [List.mem_replicate] at this
        cases this.2
  exact h0 s.heap [] _ ⟨hP, hDA⟩ va_S.rf hL
section ZR3
variable {Γ : zCx} {k : zMth} {d pc n : Nat} {sh : Nat → zShc} {ad : Nat → Nat} {post : Option Value → zMem → Prop} {lv : List (Option Value)} {μ : zMem}
theorem zrt.q (hR : zrt Γ n sh ad post) {r : Option Value} (hp : post r μ) {H : Heap} {locs : List Loc} (hW : zWd Γ (n, sh, ad, 0, 0) μ H) (hS : va_S Γ.2.2.2.2.1 Γ.2.2.2.2.2.1 H locs) : (∀ t : State, t.heap = H → Γ.2.1.1.WarmedH t.vm → (fun (_ : Array Value) st o t => (∃ (r : Option Value) (μ' : zMem), o = Outcome.returned (r.map (zcv ad)) ∧ post r μ' ∧ va_P Γ.2.2.1.2.2 vwCl (zwl Γ.2.2.2.1 n sh ad μ') (State.heap t)) ∧ va_F (zAw n ad) st t) Γ.2.1.2.2.1 Γ.2.1.1 (.returned (r.map (zcv ad))) t) ∧ ∀ q ∈ locs, zAw n ad q.base := by
  obtain ⟨h1, h2, h3⟩ := hR
  rw [h1, h2] at hS
  refine ⟨fun t ht _ => ⟨⟨r, μ, rfl, hp, by rw [ht]; exact hW.1⟩, hS.F ht⟩, hS.2.2⟩
theorem zY.iret {a : Int} (hret : k.2.2.2 = some .int) (hp : post (some (zI a)) μ) (hR : zrt Γ n sh ad post) (hO : zok Γ k d) (hd : decode k.2.1 pc = .ok (.ireturn, 1)) : zY Γ (n, sh, ad, 0, 0) pc lv [zI a] μ := by
  intro H locs ls hW hS hL
  obtain ⟨h1, h2⟩ := hR.q hp hW hS
  rw [hR.2.2]
  exact W.iret hO.1 hO.2.1 (hO.2.2.2.2.2.2.2.2.2.trans hret) h1 h2 hd hO.2.2.2.2.2.2.1
theorem zY.zret {a : Int} (ha : a = 0 ∨ a = 1) (hret : k.2.2.2 = some .boolean) (hp : post (some (zI a)) μ) (hR : zrt Γ n sh ad post) (hO : zok Γ k d) (hd : decode k.2.1 pc = .ok (.ireturn, 1)) : zY Γ (n, sh, ad, 0, 0) pc lv [zI a] μ := by
  intro H locs ls hW hS hL
  obtain ⟨h1, h2⟩ := hR.q hp hW hS
  rw [hR.2.2]
  exact W.zret hO.1 hO.2.1 (hO.2.2.2.2.2.2.2.2.2.trans hret) (by rcases ha with rfl | rfl <;> rfl) h1 h2 hd hO.2.2.2.2.2.2.1
theorem zY.lret {a : Int} (hret : k.2.2.2 = some .long) (hp : post (some (zJ a)) μ) (hR : zrt Γ n sh ad post) (hO : zok Γ k d) (hd : decode k.2.1 pc = .ok (.lreturn, 1)) : zY Γ (n, sh, ad, 0, 0) pc lv [zJ a] μ := by
  intro H locs ls hW hS hL
  obtain ⟨h1, h2⟩ := hR.q hp hW hS
  rw [hR.2.2]
  exact W.lret hO.1 hO.2.1 (hO.2.2.2.2.2.2.2.2.2.trans hret) h1 h2 hd hO.2.2.2.2.2.2.1
theorem zY.vret (hret : k.2.2.2 = none) (hp : post none μ) (hR : zrt Γ n sh ad post) (hO : zok Γ k d) (hd : decode k.2.1 pc = .ok (.return_, 1)) : zY Γ (n, sh, ad, 0, 0) pc lv [] μ := by
  intro H locs ls hW hS hL
  obtain ⟨h1, h2⟩ := hR.q hp hW hS
  rw [hR.2.2]
  exact W.vret hO.1 hO.2.1 (hO.2.2.2.2.2.2.2.2.2.trans hret) h1 h2 hd hO.2.2.2.2.2.2.1
theorem zY.aret {q : Nat} {rt : FieldType} (hret : k.2.2.2 = some rt) (hrt : (∃ n, rt = .object n) ∨ ∃ t, rt = .array t) (hp : post (some (zP q)) μ) (hR : zrt Γ n sh ad post) (hO : zok Γ k d) (hd : decode k.2.1 pc = .ok (.areturn, 1)) : zY Γ (n, sh, ad, 0, 0) pc lv [zP q] μ := by
  intro H locs ls hW hS hL
  obtain ⟨h1, h2⟩ := hR.q hp hW hS
  rw [hR.2.2]
  exact W.aret hO.1 hO.2.1 (hO.2.2.2.2.2.2.2.2.2.trans hret) hrt (Or.inr ⟨_, rfl⟩) h1 h2 hd hO.2.2.2.2.2.2.1
end ZR3
/-! calls -/
/-- of a callee: its words; nv: how many arguments -/
def zCal (k : zMth) (nv : Nat) : Prop := Cond.code k.1 k.2.1 k.2.2.1 k.2.2.2 ∈ zT ∧ Cond.initialized k.1.cls ∈ zT ∧ (k.1.cls ≠ "java/lang/invoke/MethodHandle" ∧ k.1.cls ≠ "java/lang/invoke/VarHandle" ∧ (parseMethodDescriptor k.1.desc).map (fun d => d.parameters.length) = some nv) ∧ k.2.2.1 ≤ 21
def zCalV (k : zMth) (nv : Nat) : Prop := zCal k nv ∧ Cond.instanceMethod k.1 ∈ zT ∧ Cond.selects k.1.cls k.1 k.1 ∈ zT
def zCalS (k : zMth) (nv : Nat) : Prop := zCal k nv ∧ Cond.static k.1 ∈ zT
section ZR4
variable {Γ : zCx} {ω : zOm} {k kc : zMth} {d dc pc nv idx : Nat} {lv : List (Option Value)} {av rest : List Value} {μ : zMem} {post : Option Value → zMem → Prop}
theorem zWd.free {A : Nat → Prop} {cc : zC3} {n : Nat} {sh : Nat → zShc} {ad : Nat → Nat} (h : va_D A (zwl cc n sh ad μ)) : ∀ a, zAw n ad a → A a := by
  rintro a ⟨q, hq, rfl⟩
  have := h.2 q _ (zwl_get (cc := cc) (sh := sh) (ad := ad) (μ := μ) hq)
  exact this
/-- behind a call of a contract -/
theorem zback {H : Heap} {locs : List Loc} {ls : Array Slot} {st0 : List Value} (hr : va_Run Γ.1.1 Γ.1.2.1 Γ.1.2.2.1 Γ.1.2.2.2 Γ.2.1.1 Γ.2.1.2.1 Γ.2.1.2.2.1 Γ.2.1.2.2.2 Γ.2.2.1.1 Γ.2.2.1.2.1 H locs ω.2.2.2.1 ω.2.2.2.2 0 0 (F0 Γ.2.1.2.1 pc ls st0) (rest.map (zcv ω.2.2.1)) (fun st o t => (∃ (r : Option Value) (μ' : zMem), o = .returned (r.map (zcv ω.2.2.1)) ∧ post r μ' ∧ va_P Γ.2.2.1.2.2 vwCl (zwl Γ.2.2.2.1 ω.1 ω.2.1 ω.2.2.1 μ') t.heap) ∧ va_F (zAw ω.1 ω.2.2.1) st t) (zAw ω.1 ω.2.2.1))
    (hW : zWd Γ ω μ H) (hS : va_S Γ.2.2.2.2.1 Γ.2.2.2.2.2.1 H locs) (hL : zLv ω.2.2.1 ls lv)
    (kk : ∀ r μ', post r μ' → zY Γ ω (pc + 3) lv (r.toList ++ rest) μ') :
    W Γ.1.1 Γ.1.2.1 Γ.1.2.2.1 Γ.1.2.2.2 Γ.2.1.1 Γ.2.1.2.1 Γ.2.1.2.2.1 Γ.2.1.2.2.2 Γ.2.2.1.1 Γ.2.2.1.2.1 H locs ω.2.2.2.1 ω.2.2.2.2 Γ.2.2.2.2.2.2 (F0 Γ.2.1.2.1 pc ls st0) := by
  intro T hT X
  obtain ⟨v, st₀, t, T', L, h0, X', hL1, e1, e2, ⟨⟨r, μ', hv, hp, hP⟩, hz, hk⟩, st⟩ := hr T hT X
  have hv : v = r.map (zcv ω.2.2.1) := Outcome.returned.inj hv
  subst hv
  rw [h0] at hz hk
  have hA := zWd.free hW.2
  have hS' : va_S Γ.2.2.2.2.1 Γ.2.2.2.2.2.1 T'.heap (locs ++ L) := ⟨Nat.le_trans hS.1 (by rw [e1]; exact hz), fun q h1 h2 => by rw [e1, hk q (Nat.lt_of_lt_of_le h1 hS.1) (fun z => h2 (hA q z))]; exact hS.2.1 q h1 h2, fun q hq => by
      rcases List.mem_append.mp hq with h | h
      · exact hS.2.2 q h
      · exact hA _ (hL1 q h)⟩
  obtain ⟨t2, a1, b1⟩ := kk r μ' hp T'.heap (locs ++ L) ls ⟨by rw [e1]; exact hP, zwl_D hW.2⟩ hS' hL T' rfl X'
  refine ⟨t2, st t2 ?_, b1⟩
  have e : (r.toList ++ rest).map (zcv ω.2.2.1) = (r.map (zcv ω.2.2.1)).toList ++ rest.map (zcv ω.2.2.1) := by cases r <;> simp
  rw [e] at a1
  exact a1
theorem zpre {D : va_G} {cc : zC3} {n : Nat} {sh : Nat → zShc} {ad : Nat → Nat} {s : State} {H : Heap} {A : Nat → Prop} (hP : va_P D vwCl (zwl cc n sh ad μ) H) (hD : va_D A (zwl cc n sh ad μ)) (hK : zK D cc s) (as : List Value) :
    FrameBlind (va_Pc as (fun U => va_P D vwCl (zwl cc n sh ad μ) U.heap ∧ va_D (fun _ => True) (zwl cc n sh ad μ) ∧ zK D cc U)) ∧ ∀ U : State, U.heap = H → s.WarmedH U.vm → va_Pc as (fun U => va_P D vwCl (zwl cc n sh ad μ) U.heap ∧ va_D (fun _ => True) (zwl cc n sh ad μ) ∧ zK D cc U) as.toArray U :=
  ⟨fun a U g mk q => ⟨q.1, q.2.1, q.2.2.1, q.2.2.2.calling⟩, fun U hU hWm => ⟨rfl, by rw [hU]; exact hP, hD.weaken (fun _ _ _ _ => trivial), hK.warm hWm⟩⟩
theorem zmapcat (ad : Nat → Nat) (l : List Value) : ((l.map (zcv ad)).map fun v => v.category).sum = (l.map fun v => v.category).sum := by
  rw [List.map_map]
  congr 1
  exact List.map_congr_left (fun v _ => zcv_cat ad v)
theorem zY.callV {q ci : Nat} {fl : List (Nat × Nat)} {T : u_T} {N : Nat} (hc : Ct kc dc ω.1 ω.2.1 (zP q :: av) μ post) (hdd : dc + 1 ≤ d) (hk : zCalV kc nv) (hnv : av.length = nv) (hlk : Cond.methodLink k.1.cls idx kc.1 ∈ zT) (hq : q < ω.1) (hs : ω.2.1 q = (0, ci, fl)) (hcl : vwCl[ci]? = some (kc.1.cls, T, N)) (hrs : (rest.map fun v => v.category).sum ≤ 8) (hll : lv.length = k.2.2.1) (hcs : ω.2.2.2.1 ≤ Γ.1.2.2.2.cells ∧ ω.2.2.2.2 ≤ Γ.1.2.2.2.slots)
    (hO : zok Γ k d) (hd : decode k.2.1 pc = .ok (.invokevirtual idx, 3)) (kk : ∀ r μ', post r μ' → zY Γ ω (pc + 3) lv (r.toList ++ rest) μ') : zY Γ ω pc lv (av.reverse ++ zP q :: rest) μ := by
  intro H locs ls hW hS hL
  have hst : (av.reverse ++ zP q :: rest).map (zcv ω.2.2.1) = (av.map (zcv ω.2.2.1)).reverse ++ .ref (ω.2.2.1 q) :: rest.map (zcv ω.2.2.1) := by
    simp [List.map_reverse, zcv_P]
  rw [hst]
  obtain ⟨⟨h1, h2, h3, h4⟩, h5, h6⟩ := hk
  have hts := hO.2.2.2.2.1
  have hM := hc Γ.1.2.1 Γ.2.2.1.2.2 Γ.2.2.2.1 ω.2.2.1
  have hpre := zpre hW.1 hW.2 hO.2.2.2.2.2.1 ((zP q :: av).map (zcv ω.2.2.1))
  have he := zwl_get (cc := Γ.2.2.2.1) (sh := ω.2.1) (ad := ω.2.2.1) (μ := μ) hq
  rw [zce_0 hs] at he
  have hrecv := va_recv hO.2.2.2.2.2.1.1 hW.1 hcl he
  have hfr := hO.2.2.2.2.2.2.2.1
  have hlo := hO.2.2.2.2.2.2.2.2.1
  have hrm : (zrm dc).frames + 1 ≤ Γ.1.2.2.2.frames ∧ 8 + (kc.2.2.1 + 11) + (zrm dc).locals ≤ Γ.1.2.2.2.locals := by
    show dc + 1 ≤ _ ∧ 8 + (kc.2.2.1 + 11) + 40 * dc ≤ _
    omega
  have hcw : CallW Γ.1.2.2.2 Γ.2.1.1 Γ.2.1.2.2.1 k.1.cls kc.1.cls idx kc.1 kc.2.1 kc.2.2.1 kc.2.2.2 (zws kc) (zrm dc) 0 0 nv :=
    ⟨callB_of nv hts (zT_in h1) rfl rfl rfl (hts _ h2) (hts _ hlk) h3 hrm, hts _ h5, hts _ h6⟩
  intro T0 hT0 X0
  refine zback (va_runV (As := av.map (zcv ω.2.2.1)) (b := ω.2.2.1 q) ⟨hO.1, hO.2.1, hO.2.2.1, hO.2.2.2.1, hts⟩ hM hcw ⟨hpre.1, hrecv, hpre.2⟩ rfl (by simpa using hnv) ?_ rfl ?_ hd ?_) hW hS hL kk T0 hT0 X0
  · exact hL.1.trans hll
  · show 2 * 0 + _ ≤ 8
    rw [zmapcat]
    omega
  · exact hcs
theorem zY.callS (hc : Ct kc dc ω.1 ω.2.1 av μ post) (hdd : dc + 1 ≤ d) (hk : zCalS kc nv) (hnv : av.length = nv) (hlk : Cond.methodLink k.1.cls idx kc.1 ∈ zT) (hrs : (rest.map fun v => v.category).sum ≤ 8) (hll : lv.length = k.2.2.1) (hcs : ω.2.2.2.1 ≤ Γ.1.2.2.2.cells ∧ ω.2.2.2.2 ≤ Γ.1.2.2.2.slots)
    (hO : zok Γ k d) (hd : decode k.2.1 pc = .ok (.invokestatic idx, 3)) (kk : ∀ r μ', post r μ' → zY Γ ω (pc + 3) lv (r.toList ++ rest) μ') : zY Γ ω pc lv (av.reverse ++ rest) μ := by
  intro H locs ls hW hS hL
  have hst : (av.reverse ++ rest).map (zcv ω.2.2.1) = (av.map (zcv ω.2.2.1)).reverse ++ rest.map (zcv ω.2.2.1) := by
    simp [List.map_reverse]
  rw [hst]
  obtain ⟨⟨h1, h2, h3, h4⟩, h5⟩ := hk
  have hts := hO.2.2.2.2.1
  have hM := hc Γ.1.2.1 Γ.2.2.1.2.2 Γ.2.2.2.1 ω.2.2.1
  have hpre := zpre hW.1 hW.2 hO.2.2.2.2.2.1 (av.map (zcv ω.2.2.1))
  have hfr := hO.2.2.2.2.2.2.2.1
  have hlo := hO.2.2.2.2.2.2.2.2.1
  have hrm : (zrm dc).frames + 1 ≤ Γ.1.2.2.2.frames ∧ 8 + (kc.2.2.1 + 11) + (zrm dc).locals ≤ Γ.1.2.2.2.locals := by
    show dc + 1 ≤ _ ∧ 8 + (kc.2.2.1 + 11) + 40 * dc ≤ _
    omega
  have hcw : CallB Γ.1.2.2.2 Γ.2.1.1 Γ.2.1.2.2.1 k.1.cls idx kc.1 kc.2.1 kc.2.2.1 kc.2.2.2 (zws kc) (zrm dc) 0 0 nv ∧ (Cond.static kc.1).before Γ.2.1.2.2.1 Γ.2.1.1 = true :=
    ⟨callB_of nv hts (zT_in h1) rfl rfl rfl (hts _ h2) (hts _ hlk) h3 hrm, hts _ h5⟩
  intro T0 hT0 X0
  refine zback (va_runS (As := av.map (zcv ω.2.2.1)) ⟨hO.1, hO.2.1, hO.2.2.1, hO.2.2.2.1, hts⟩ hM hcw hpre rfl (by simpa using hnv) (hL.1.trans hll) rfl ?_ hd hcs) hW hS hL kk T0 hT0 X0
  show 2 * 0 + _ ≤ 8
  rw [zmapcat]
  omega
theorem zY.callSN {host : String} (hc : Ct kc dc ω.1 ω.2.1 av μ post) (hdd : dc + 1 ≤ d) (hk : zCalS kc nv) (hnv : av.length = nv) (hlk : (k.1.cls, idx, kc.1, host) ∈ zNest) (hrs : (rest.map fun v => v.category).sum ≤ 8) (hll : lv.length = k.2.2.1) (hcs : ω.2.2.2.1 ≤ Γ.1.2.2.2.cells ∧ ω.2.2.2.2 ≤ Γ.1.2.2.2.slots)
    (hO : zok Γ k d) (hd : decode k.2.1 pc = .ok (.invokestatic idx, 3)) (kk : ∀ r μ', post r μ' → zY Γ ω (pc + 3) lv (r.toList ++ rest) μ') : zY Γ ω pc lv (av.reverse ++ rest) μ := by
  intro H locs ls hW hS hL
  have hst : (av.reverse ++ rest).map (zcv ω.2.2.1) = (av.map (zcv ω.2.2.1)).reverse ++ rest.map (zcv ω.2.2.1) := by
    simp [List.map_reverse]
  rw [hst]
  obtain ⟨⟨h1, h2, h3, h4⟩, h5⟩ := hk
  have hts := hO.2.2.2.2.1
  have hM := hc Γ.1.2.1 Γ.2.2.1.2.2 Γ.2.2.2.1 ω.2.2.1
  have hpre := zpre hW.1 hW.2 hO.2.2.2.2.2.1 (av.map (zcv ω.2.2.1))
  have hfr := hO.2.2.2.2.2.2.2.1
  have hlo := hO.2.2.2.2.2.2.2.2.1
  have hrm : (zrm dc).frames + 1 ≤ Γ.1.2.2.2.frames ∧ 8 + (kc.2.2.1 + 11) + (zrm dc).locals ≤ Γ.1.2.2.2.locals := by
    show dc + 1 ≤ _ ∧ 8 + (kc.2.2.1 + 11) + 40 * dc ≤ _
    omega
  have hcw : va_CN Γ.1.2.2.2 Γ.2.1.1 Γ.2.1.2.2.1 k.1.cls idx kc.1 host kc.2.1 kc.2.2.1 kc.2.2.2 (zws kc) (zrm dc) 0 0 nv ∧ (Cond.static kc.1).before Γ.2.1.2.2.1 Γ.2.1.1 = true ∧ True :=
    ⟨va_cnB nv hts (zT_in h1) rfl rfl rfl (hO.2.2.2.2.2.1.2 _ hlk) (hts _ h2) h3 hrm, hts _ h5, trivial⟩
  intro T0 hT0 X0
  refine zback (va_runSN (As := av.map (zcv ω.2.2.1)) ⟨hO.1, hO.2.1, hO.2.2.1, hO.2.2.2.1, hts⟩ hM hcw hpre rfl (by simpa using hnv) (hL.1.trans hll) rfl ?_ hd hcs) hW hS hL kk T0 hT0 X0
  show 2 * 0 + _ ≤ 8
  rw [zmapcat]
  omega
/-! the library's own: max, min -/
def zMath (own : String) (idx : Nat) (y : MethodName) (code : ByteArray) (maxL : Nat) (ret : Option FieldType) : Prop := Cond.methodLink own idx y ∈ zT ∧ Cond.static y ∈ zT ∧ Cond.initialized "java/lang/Math" ∈ zT ∧ Cond.code y code maxL ret ∈ zT
theorem zY.mmax {a b : Int} (ra : zr a) (rb : zr b) (hm : zMath k.1.cls idx Lib.Math.max.name Lib.Math.max.code 2 (some .int)) (hrs : (rest.map fun v => v.category).sum ≤ 8) (hdd : 1 ≤ d) (hll : lv.length = k.2.2.1) (hcs : ω.2.2.2.1 ≤ Γ.1.2.2.2.cells ∧ ω.2.2.2.2 ≤ Γ.1.2.2.2.slots)
    (hO : zok Γ k d) (hd : decode k.2.1 pc = .ok (.invokestatic idx, 3)) (kk : zY Γ ω (pc + 3) lv (zI (max a b) :: rest) μ) : zY Γ ω pc lv (zI b :: zI a :: rest) μ := by
  intro H locs ls hW hS hL
  have hts := hO.2.2.2.2.1
  have hfr := hO.2.2.2.2.2.2.2.1
  have hlo := hO.2.2.2.2.2.2.2.2.1
  refine va_mmax hO.1 hO.2.1 (hO.2.2.1.trans (hL.1.trans hll).symm) hO.2.2.2.1 (hts _ hm.1) (hts _ hm.2.1) (hts _ hm.2.2.1) (hts _ hm.2.2.2) (by omega) (by rw [zmapcat]; omega) hcs.1 hcs.2 hd ?_
  have e : (if Int32.ofInt a < Int32.ofInt b then Int32.ofInt b else Int32.ofInt a) = Int32.ofInt (max a b) := by
    by_cases h : a < b
    · rw [if_pos ((zr_lt ra rb).mpr h), Int.max_eq_right (by omega)]
    · rw [if_neg (fun z => h ((zr_lt ra rb).mp z)), Int.max_eq_left (by omega)]
  rw [e]
  exact kk H locs ls hW hS hL
theorem zY.mmin {a b : Int} (ra : zr a) (rb : zr b) (hm : zMath k.1.cls idx Lib.Math.min.name Lib.Math.min.code 2 (some .int)) (hrs : (rest.map fun v => v.category).sum ≤ 8) (hdd : 1 ≤ d) (hll : lv.length = k.2.2.1) (hcs : ω.2.2.2.1 ≤ Γ.1.2.2.2.cells ∧ ω.2.2.2.2 ≤ Γ.1.2.2.2.slots)
    (hO : zok Γ k d) (hd : decode k.2.1 pc = .ok (.invokestatic idx, 3)) (kk : zY Γ ω (pc + 3) lv (zI (min a b) :: rest) μ) : zY Γ ω pc lv (zI b :: zI a :: rest) μ := by
  intro H locs ls hW hS hL
  have hts := hO.2.2.2.2.1
  have hfr := hO.2.2.2.2.2.2.2.1
  have hlo := hO.2.2.2.2.2.2.2.2.1
  refine va_mmin hO.1 hO.2.1 (hO.2.2.1.trans (hL.1.trans hll).symm) hO.2.2.2.1 (hts _ hm.1) (hts _ hm.2.1) (hts _ hm.2.2.1) (hts _ hm.2.2.2) (by omega) (by rw [zmapcat]; omega) hcs.1 hcs.2 hd ?_
  have e : (if Int32.ofInt b < Int32.ofInt a then Int32.ofInt b else Int32.ofInt a) = Int32.ofInt (min a b) := by
    by_cases h : b < a
    · rw [if_pos ((zr_lt rb ra).mpr h), Int.min_eq_right (by omega)]
    · rw [if_neg (fun z => h ((zr_lt rb ra).mp z)), Int.min_eq_left (by omega)]
  rw [e]
  exact kk H locs ls hW hS hL
theorem zrl_lt {a b : Int} (ha : zrl a) (hb : zrl b) : Int64.ofInt a < Int64.ofInt b ↔ a < b := Int64.ofInt_lt_iff_lt (by exact ha.1) (by exact ha.2) (by exact hb.1) (by exact hb.2)
theorem zrl_eq {a b : Int} (ha : zrl a) (hb : zrl b) : Int64.ofInt a = Int64.ofInt b ↔ a = b := by
  constructor
  · intro h
    have h1 := congrArg Int64.toInt h
    rwa [Int64.toInt_ofInt_of_le ha.1 (by have := ha.2; omega), Int64.toInt_ofInt_of_le hb.1 (by have := hb.2; omega)] at h1
  · intro h
    rw [h]
theorem zY.mminl {a b : Int} (ra : zrl a) (rb : zrl b) (hm : zMath k.1.cls idx Lib.MathLoose.min_long.x Lib.MathLoose.min_long.code 4 (some .long)) (hrs : (rest.map fun v => v.category).sum ≤ 8) (hdd : 1 ≤ d) (hll : lv.length = k.2.2.1) (hcs : ω.2.2.2.1 ≤ Γ.1.2.2.2.cells ∧ ω.2.2.2.2 ≤ Γ.1.2.2.2.slots)
    (hO : zok Γ k d) (hd : decode k.2.1 pc = .ok (.invokestatic idx, 3)) (kk : zY Γ ω (pc + 3) lv (zJ (min a b) :: rest) μ) : zY Γ ω pc lv (zJ b :: zJ a :: rest) μ := by
  intro H locs ls hW hS hL
  have hts := hO.2.2.2.2.1
  have hfr := hO.2.2.2.2.2.2.2.1
  have hlo := hO.2.2.2.2.2.2.2.2.1
  refine va_mmin_long hO.1 hO.2.1 (hO.2.2.1.trans (hL.1.trans hll).symm) hO.2.2.2.1 (hts _ hm.1) (hts _ hm.2.1) (hts _ hm.2.2.1) (hts _ hm.2.2.2) (by omega) (by rw [zmapcat]; omega) hcs.1 hcs.2 hd ?_
  have e : (if Int64.ofInt b < Int64.ofInt a then Int64.ofInt b else Int64.ofInt a) = Int64.ofInt (min a b) := by
    by_cases h : b < a
    · rw [if_pos ((zrl_lt rb ra).mpr h), Int.min_eq_right (by omega)]
    · rw [if_neg (fun z => h ((zrl_lt rb ra).mp z)), Int.min_eq_left (by omega)]
  rw [e]
  exact kk H locs ls hW hS hL
theorem zY.lcmp {a b : Int} (ra : zrl a) (rb : zrl b) (hO : zok Γ k d) (hd : decode k.2.1 pc = .ok (.lcmp, 1)) (kk : zY Γ ω (pc + 1) lv (zI (if b < a then 1 else if a = b then 0 else -1) :: rest) μ) : zY Γ ω pc lv (zJ b :: zJ a :: rest) μ := by
  intro H locs ls hW hS hL
  refine W.lcmp hO.1 hO.2.1 hd ?_
  have e : lg_cmp (Int64.ofInt a) (Int64.ofInt b) = Int32.ofInt (if b < a then 1 else if a = b then 0 else -1) := by
    unfold lg_cmp
    by_cases h1 : b < a
    · rw [if_pos ((zrl_lt rb ra).mpr h1), if_pos h1]; rfl
    · rw [if_neg (fun z => h1 ((zrl_lt rb ra).mp z)), if_neg h1]
      by_cases h2 : a = b
      · rw [if_pos ((zrl_eq ra rb).mpr h2), if_pos h2]; rfl
      · rw [if_neg (fun z => h2 ((zrl_eq ra rb).mp z)), if_neg h2]; rfl
  rw [e]
  exact kk H locs ls hW hS hL
theorem zY.tswIn {dflt lo hi off : Int} {offs : Array Int} {len tgt : Nat} {a : Int} (ra : zr a) (h1 : lo ≤ a) (h2 : a ≤ hi) (ho : offs[(a - lo).toNat]? = some off) (ht : (pc : Int) + off = (tgt : Int)) (hO : zok Γ k d) (hd : decode k.2.1 pc = .ok (.tableswitch dflt lo hi offs, len)) (kk : zY Γ ω tgt lv rest μ) : zY Γ ω pc lv (zI a :: rest) μ := by
  intro H locs ls hW hS hL
  have e : (Int32.ofInt a).toInt = a := Int32.toInt_ofInt_of_le ra.1 (by have := ra.2; omega)
  exact lv_tableIn hO.1 hO.2.1 hd (by rw [e]; omega) (by rw [e]; omega) (by rw [e]; exact ho) ht (kk H locs ls hW hS hL)
theorem zY.tswOut {dflt lo hi : Int} {offs : Array Int} {len tgt : Nat} {a : Int} (ra : zr a) (h1 : a < lo ∨ hi < a) (ht : (pc : Int) + dflt = (tgt : Int)) (hO : zok Γ k d) (hd : decode k.2.1 pc = .ok (.tableswitch dflt lo hi offs, len)) (kk : zY Γ ω tgt lv rest μ) : zY Γ ω pc lv (zI a :: rest) μ := by
  intro H locs ls hW hS hL
  have e : (Int32.ofInt a).toInt = a := Int32.toInt_ofInt_of_le ra.1 (by have := ra.2; omega)
  exact lv_tableOut hO.1 hO.2.1 hd (by rw [e]; exact h1) ht (kk H locs ls hW hS hL)
end ZR4
/-! calls by the number of arguments; stores by the local's number -/
theorem zY.callV0 {Γ : zCx} {ω : zOm} {k kc : zMth} {d dc pc idx : Nat} {lv : List (Option Value)} {rest : List Value} {μ : zMem} {post : Option Value → zMem → Prop} {q ci : Nat} {fl : List (Nat × Nat)} {T : u_T} {N : Nat} (hc : Ct kc dc ω.1 ω.2.1 [zP q] μ post) (hdd : dc + 1 ≤ d) (hk : zCalV kc 0) (hlk : Cond.methodLink k.1.cls idx kc.1 ∈ zT) (hq : q < ω.1) (hs : ω.2.1 q = (0, ci, fl)) (hcl : vwCl[ci]? = some (kc.1.cls, T, N)) (hrs : (rest.map fun v => v.category).sum ≤ 8) (hll : lv.length = k.2.2.1) (hcs : ω.2.2.2.1 ≤ Γ.1.2.2.2.cells ∧ ω.2.2.2.2 ≤ Γ.1.2.2.2.slots) (hO : zok Γ k d) (hd : decode k.2.1 pc = .ok (.invokevirtual idx, 3)) (kk : ∀ r μ', post r μ' → zY Γ ω (pc + 3) lv (r.toList ++ rest) μ') : zY Γ ω pc lv (zP q :: rest) μ :=
  zY.callV (av := []) hc hdd hk rfl hlk hq hs hcl hrs hll hcs hO hd kk
theorem zY.callV1 {Γ : zCx} {ω : zOm} {k kc : zMth} {d dc pc idx : Nat} {lv : List (Option Value)} {rest : List Value} {μ : zMem} {post : Option Value → zMem → Prop} {v1 : Value} {q ci : Nat} {fl : List (Nat × Nat)} {T : u_T} {N : Nat} (hc : Ct kc dc ω.1 ω.2.1 [zP q, v1] μ post) (hdd : dc + 1 ≤ d) (hk : zCalV kc 1) (hlk : Cond.methodLink k.1.cls idx kc.1 ∈ zT) (hq : q < ω.1) (hs : ω.2.1 q = (0, ci, fl)) (hcl : vwCl[ci]? = some (kc.1.cls, T, N)) (hrs : (rest.map fun v => v.category).sum ≤ 8) (hll : lv.length = k.2.2.1) (hcs : ω.2.2.2.1 ≤ Γ.1.2.2.2.cells ∧ ω.2.2.2.2 ≤ Γ.1.2.2.2.slots) (hO : zok Γ k d) (hd : decode k.2.1 pc = .ok (.invokevirtual idx, 3)) (kk : ∀ r μ', post r μ' → zY Γ ω (pc + 3) lv (r.toList ++ rest) μ') : zY Γ ω pc lv (v1 :: zP q :: rest) μ :=
  zY.callV (av := [v1]) hc hdd hk rfl hlk hq hs hcl hrs hll hcs hO hd kk
theorem zY.callV2 {Γ : zCx} {ω : zOm} {k kc : zMth} {d dc pc idx : Nat} {lv : List (Option Value)} {rest : List Value} {μ : zMem} {post : Option Value → zMem → Prop} {v1 v2 : Value} {q ci : Nat} {fl : List (Nat × Nat)} {T : u_T} {N : Nat} (hc : Ct kc dc ω.1 ω.2.1 [zP q, v1, v2] μ post) (hdd : dc + 1 ≤ d) (hk : zCalV kc 2) (hlk : Cond.methodLink k.1.cls idx kc.1 ∈ zT) (hq : q < ω.1) (hs : ω.2.1 q = (0, ci, fl)) (hcl : vwCl[ci]? = some (kc.1.cls, T, N)) (hrs : (rest.map fun v => v.category).sum ≤ 8) (hll : lv.length = k.2.2.1) (hcs : ω.2.2.2.1 ≤ Γ.1.2.2.2.cells ∧ ω.2.2.2.2 ≤ Γ.1.2.2.2.slots) (hO : zok Γ k d) (hd : decode k.2.1 pc = .ok (.invokevirtual idx, 3)) (kk : ∀ r μ', post r μ' → zY Γ ω (pc + 3) lv (r.toList ++ rest) μ') : zY Γ ω pc lv (v2 :: v1 :: zP q :: rest) μ :=
  zY.callV (av := [v1, v2]) hc hdd hk rfl hlk hq hs hcl hrs hll hcs hO hd kk
theorem zY.callV3 {Γ : zCx} {ω : zOm} {k kc : zMth} {d dc pc idx : Nat} {lv : List (Option Value)} {rest : List Value} {μ : zMem} {post : Option Value → zMem → Prop} {v1 v2 v3 : Value} {q ci : Nat} {fl : List (Nat × Nat)} {T : u_T} {N : Nat} (hc : Ct kc dc ω.1 ω.2.1 [zP q, v1, v2, v3] μ post) (hdd : dc + 1 ≤ d) (hk : zCalV kc 3) (hlk : Cond.methodLink k.1.cls idx kc.1 ∈ zT) (hq : q < ω.1) (hs : ω.2.1 q = (0, ci, fl)) (hcl : vwCl[ci]? = some (kc.1.cls, T, N)) (hrs : (rest.map fun v => v.category).sum ≤ 8) (hll : lv.length = k.2.2.1) (hcs : ω.2.2.2.1 ≤ Γ.1.2.2.2.cells ∧ ω.2.2.2.2 ≤ Γ.1.2.2.2.slots) (hO : zok Γ k d) (hd : decode k.2.1 pc = .ok (.invokevirtual idx, 3)) (kk : ∀ r μ', post r μ' → zY Γ ω (pc + 3) lv (r.toList ++ rest) μ') : zY Γ ω pc lv (v3 :: v2 :: v1 :: zP q :: rest) μ :=
  zY.callV (av := [v1, v2, v3]) hc hdd hk rfl hlk hq hs hcl hrs hll hcs hO hd kk
theorem zY.callV4 {Γ : zCx} {ω : zOm} {k kc : zMth} {d dc pc idx : Nat} {lv : List (Option Value)} {rest : List Value} {μ : zMem} {post : Option Value → zMem → Prop} {v1 v2 v3 v4 : Value} {q ci : Nat} {fl : List (Nat × Nat)} {T : u_T} {N : Nat} (hc : Ct kc dc ω.1 ω.2.1 [zP q, v1, v2, v3, v4] μ post) (hdd : dc + 1 ≤ d) (hk : zCalV kc 4) (hlk : Cond.methodLink k.1.cls idx kc.1 ∈ zT) (hq : q < ω.1) (hs : ω.2.1 q = (0, ci, fl)) (hcl : vwCl[ci]? = some (kc.1.cls, T, N)) (hrs : (rest.map fun v => v.category).sum ≤ 8) (hll : lv.length = k.2.2.1) (hcs : ω.2.2.2.1 ≤ Γ.1.2.2.2.cells ∧ ω.2.2.2.2 ≤ Γ.1.2.2.2.slots) (hO : zok Γ k d) (hd : decode k.2.1 pc = .ok (.invokevirtual idx, 3)) (kk : ∀ r μ', post r μ' → zY Γ ω (pc + 3) lv (r.toList ++ rest) μ') : zY Γ ω pc lv (v4 :: v3 :: v2 :: v1 :: zP q :: rest) μ :=
  zY.callV (av := [v1, v2, v3, v4]) hc hdd hk rfl hlk hq hs hcl hrs hll hcs hO hd kk
theorem zY.callS1 {Γ : zCx} {ω : zOm} {k kc : zMth} {d dc pc idx : Nat} {lv : List (Option Value)} {rest : List Value} {μ : zMem} {post : Option Value → zMem → Prop} {v1 : Value} (hc : Ct kc dc ω.1 ω.2.1 [v1] μ post) (hdd : dc + 1 ≤ d) (hk : zCalS kc 1) (hlk : Cond.methodLink k.1.cls idx kc.1 ∈ zT) (hrs : (rest.map fun v => v.category).sum ≤ 8) (hll : lv.length = k.2.2.1) (hcs : ω.2.2.2.1 ≤ Γ.1.2.2.2.cells ∧ ω.2.2.2.2 ≤ Γ.1.2.2.2.slots) (hO : zok Γ k d) (hd : decode k.2.1 pc = .ok (.invokestatic idx, 3)) (kk : ∀ r μ', post r μ' → zY Γ ω (pc + 3) lv (r.toList ++ rest) μ') : zY Γ ω pc lv (v1 :: rest) μ :=
  zY.callS (av := [v1]) hc hdd hk rfl hlk hrs hll hcs hO hd kk
theorem zY.callS2 {Γ : zCx} {ω : zOm} {k kc : zMth} {d dc pc idx : Nat} {lv : List (Option Value)} {rest : List Value} {μ : zMem} {post : Option Value → zMem → Prop} {v1 v2 : Value} (hc : Ct kc dc ω.1 ω.2.1 [v1, v2] μ post) (hdd : dc + 1 ≤ d) (hk : zCalS kc 2) (hlk : Cond.methodLink k.1.cls idx kc.1 ∈ zT) (hrs : (rest.map fun v => v.category).sum ≤ 8) (hll : lv.length = k.2.2.1) (hcs : ω.2.2.2.1 ≤ Γ.1.2.2.2.cells ∧ ω.2.2.2.2 ≤ Γ.1.2.2.2.slots) (hO : zok Γ k d) (hd : decode k.2.1 pc = .ok (.invokestatic idx, 3)) (kk : ∀ r μ', post r μ' → zY Γ ω (pc + 3) lv (r.toList ++ rest) μ') : zY Γ ω pc lv (v2 :: v1 :: rest) μ :=
  zY.callS (av := [v1, v2]) hc hdd hk rfl hlk hrs hll hcs hO hd kk
theorem zY.callS3 {Γ : zCx} {ω : zOm} {k kc : zMth} {d dc pc idx : Nat} {lv : List (Option Value)} {rest : List Value} {μ : zMem} {post : Option Value → zMem → Prop} {v1 v2 v3 : Value} (hc : Ct kc dc ω.1 ω.2.1 [v1, v2, v3] μ post) (hdd : dc + 1 ≤ d) (hk : zCalS kc 3) (hlk : Cond.methodLink k.1.cls idx kc.1 ∈ zT) (hrs : (rest.map fun v => v.category).sum ≤ 8) (hll : lv.length = k.2.2.1) (hcs : ω.2.2.2.1 ≤ Γ.1.2.2.2.cells ∧ ω.2.2.2.2 ≤ Γ.1.2.2.2.slots) (hO : zok Γ k d) (hd : decode k.2.1 pc = .ok (.invokestatic idx, 3)) (kk : ∀ r μ', post r μ' → zY Γ ω (pc + 3) lv (r.toList ++ rest) μ') : zY Γ ω pc lv (v3 :: v2 :: v1 :: rest) μ :=
  zY.callS (av := [v1, v2, v3]) hc hdd hk rfl hlk hrs hll hcs hO hd kk
theorem zY.callSN1 {Γ : zCx} {ω : zOm} {k kc : zMth} {d dc pc idx : Nat} {lv : List (Option Value)} {rest : List Value} {μ : zMem} {post : Option Value → zMem → Prop} {v1 : Value} {host : String} (hc : Ct kc dc ω.1 ω.2.1 [v1] μ post) (hdd : dc + 1 ≤ d) (hk : zCalS kc 1) (hlk : (k.1.cls, idx, kc.1, host) ∈ zNest) (hrs : (rest.map fun v => v.category).sum ≤ 8) (hll : lv.length = k.2.2.1) (hcs : ω.2.2.2.1 ≤ Γ.1.2.2.2.cells ∧ ω.2.2.2.2 ≤ Γ.1.2.2.2.slots) (hO : zok Γ k d) (hd : decode k.2.1 pc = .ok (.invokestatic idx, 3)) (kk : ∀ r μ', post r μ' → zY Γ ω (pc + 3) lv (r.toList ++ rest) μ') : zY Γ ω pc lv (v1 :: rest) μ :=
  zY.callSN (av := [v1]) hc hdd hk rfl hlk hrs hll hcs hO hd kk
theorem zY.callSN2 {Γ : zCx} {ω : zOm} {k kc : zMth} {d dc pc idx : Nat} {lv : List (Option Value)} {rest : List Value} {μ : zMem} {post : Option Value → zMem → Prop} {v1 v2 : Value} {host : String} (hc : Ct kc dc ω.1 ω.2.1 [v1, v2] μ post) (hdd : dc + 1 ≤ d) (hk : zCalS kc 2) (hlk : (k.1.cls, idx, kc.1, host) ∈ zNest) (hrs : (rest.map fun v => v.category).sum ≤ 8) (hll : lv.length = k.2.2.1) (hcs : ω.2.2.2.1 ≤ Γ.1.2.2.2.cells ∧ ω.2.2.2.2 ≤ Γ.1.2.2.2.slots) (hO : zok Γ k d) (hd : decode k.2.1 pc = .ok (.invokestatic idx, 3)) (kk : ∀ r μ', post r μ' → zY Γ ω (pc + 3) lv (r.toList ++ rest) μ') : zY Γ ω pc lv (v2 :: v1 :: rest) μ :=
  zY.callSN (av := [v1, v2]) hc hdd hk rfl hlk hrs hll hcs hO hd kk
theorem zY.callSN3 {Γ : zCx} {ω : zOm} {k kc : zMth} {d dc pc idx : Nat} {lv : List (Option Value)} {rest : List Value} {μ : zMem} {post : Option Value → zMem → Prop} {v1 v2 v3 : Value} {host : String} (hc : Ct kc dc ω.1 ω.2.1 [v1, v2, v3] μ post) (hdd : dc + 1 ≤ d) (hk : zCalS kc 3) (hlk : (k.1.cls, idx, kc.1, host) ∈ zNest) (hrs : (rest.map fun v => v.category).sum ≤ 8) (hll : lv.length = k.2.2.1) (hcs : ω.2.2.2.1 ≤ Γ.1.2.2.2.cells ∧ ω.2.2.2.2 ≤ Γ.1.2.2.2.slots) (hO : zok Γ k d) (hd : decode k.2.1 pc = .ok (.invokestatic idx, 3)) (kk : ∀ r μ', post r μ' → zY Γ ω (pc + 3) lv (r.toList ++ rest) μ') : zY Γ ω pc lv (v3 :: v2 :: v1 :: rest) μ :=
  zY.callSN (av := [v1, v2, v3]) hc hdd hk rfl hlk hrs hll hcs hO hd kk
theorem zY.istore0 {Γ : zCx} {ω : zOm} {k : zMth} {d pc : Nat} {lv : List (Option Value)} {st : List Value} {μ : zMem} {o0 : Option Value} {a : Int} (hO : zok Γ k d) (hd : decode k.2.1 pc = .ok (.istore_n 0, 1)) (kk : zY Γ ω (pc + 1) (some (zI a) :: lv) st μ) : zY Γ ω pc (o0 :: lv) (zI a :: st) μ :=
  zY.istoreG_n (j := 0) hO hd (by show (0 : Nat) < _; simp only [List.length_cons]; omega) (fun _ _ => Or.inl rfl) kk
theorem zY.iinc0 {Γ : zCx} {ω : zOm} {k : zMth} {d pc : Nat} {lv : List (Option Value)} {st : List Value} {μ : zMem} {a : Int} (b : Int) {n : Int} (hb : a + n = b) (hO : zok Γ k d) (hd : decode k.2.1 pc = .ok (.iinc 0 n, 3)) (kk : zY Γ ω (pc + 3) (some (zI b) :: lv) st μ) : zY Γ ω pc (some (zI a) :: lv) st μ :=
  zY.iincG hO hd rfl hb (fun _ _ => Or.inl rfl) kk
theorem zY.istore1 {Γ : zCx} {ω : zOm} {k : zMth} {d pc : Nat} {lv : List (Option Value)} {st : List Value} {μ : zMem} {o0 o1 : Option Value} {a : Int} (hp : zc1 o0) (hO : zok Γ k d) (hd : decode k.2.1 pc = .ok (.istore_n 1, 1)) (kk : zY Γ ω (pc + 1) (o0 :: some (zI a) :: lv) st μ) : zY Γ ω pc (o0 :: o1 :: lv) (zI a :: st) μ :=
  zY.istoreG_n (j := 1) hO hd (by show (1 : Nat) < _; simp only [List.length_cons]; omega) (fun o ho => by cases ho; exact Or.inr hp) kk
theorem zY.iinc1 {Γ : zCx} {ω : zOm} {k : zMth} {d pc : Nat} {lv : List (Option Value)} {st : List Value} {μ : zMem} {o0 : Option Value} {a : Int} (b : Int) {n : Int} (hb : a + n = b) (hp : zc1 o0) (hO : zok Γ k d) (hd : decode k.2.1 pc = .ok (.iinc 1 n, 3)) (kk : zY Γ ω (pc + 3) (o0 :: some (zI b) :: lv) st μ) : zY Γ ω pc (o0 :: some (zI a) :: lv) st μ :=
  zY.iincG hO hd rfl hb (fun o ho => by cases ho; exact Or.inr hp) kk
theorem zY.istore2 {Γ : zCx} {ω : zOm} {k : zMth} {d pc : Nat} {lv : List (Option Value)} {st : List Value} {μ : zMem} {o0 o1 o2 : Option Value} {a : Int} (hp : zc1 o1) (hO : zok Γ k d) (hd : decode k.2.1 pc = .ok (.istore_n 2, 1)) (kk : zY Γ ω (pc + 1) (o0 :: o1 :: some (zI a) :: lv) st μ) : zY Γ ω pc (o0 :: o1 :: o2 :: lv) (zI a :: st) μ :=
  zY.istoreG_n (j := 2) hO hd (by show (2 : Nat) < _; simp only [List.length_cons]; omega) (fun o ho => by cases ho; exact Or.inr hp) kk
theorem zY.iinc2 {Γ : zCx} {ω : zOm} {k : zMth} {d pc : Nat} {lv : List (Option Value)} {st : List Value} {μ : zMem} {o0 o1 : Option Value} {a : Int} (b : Int) {n : Int} (hb : a + n = b) (hp : zc1 o1) (hO : zok Γ k d) (hd : decode k.2.1 pc = .ok (.iinc 2 n, 3)) (kk : zY Γ ω (pc + 3) (o0 :: o1 :: some (zI b) :: lv) st μ) : zY Γ ω pc (o0 :: o1 :: some (zI a) :: lv) st μ :=
  zY.iincG hO hd rfl hb (fun o ho => by cases ho; exact Or.inr hp) kk
theorem zY.istore3 {Γ : zCx} {ω : zOm} {k : zMth} {d pc : Nat} {lv : List (Option Value)} {st : List Value} {μ : zMem} {o0 o1 o2 o3 : Option Value} {a : Int} (hp : zc1 o2) (hO : zok Γ k d) (hd : decode k.2.1 pc = .ok (.istore_n 3, 1)) (kk : zY Γ ω (pc + 1) (o0 :: o1 :: o2 :: some (zI a) :: lv) st μ) : zY Γ ω pc (o0 :: o1 :: o2 :: o3 :: lv) (zI a :: st) μ :=
  zY.istoreG_n (j := 3) hO hd (by show (3 : Nat) < _; simp only [List.length_cons]; omega) (fun o ho => by cases ho; exact Or.inr hp) kk
theorem zY.iinc3 {Γ : zCx} {ω : zOm} {k : zMth} {d pc : Nat} {lv : List (Option Value)} {st : List Value} {μ : zMem} {o0 o1 o2 : Option Value} {a : Int} (b : Int) {n : Int} (hb : a + n = b) (hp : zc1 o2) (hO : zok Γ k d) (hd : decode k.2.1 pc = .ok (.iinc 3 n, 3)) (kk : zY Γ ω (pc + 3) (o0 :: o1 :: o2 :: some (zI b) :: lv) st μ) : zY Γ ω pc (o0 :: o1 :: o2 :: some (zI a) :: lv) st μ :=
  zY.iincG hO hd rfl hb (fun o ho => by cases ho; exact Or.inr hp) kk
theorem zY.istore4 {Γ : zCx} {ω : zOm} {k : zMth} {d pc : Nat} {lv : List (Option Value)} {st : List Value} {μ : zMem} {o0 o1 o2 o3 o4 : Option Value} {a : Int} (hp : zc1 o3) (hO : zok Γ k d) (hd : decode k.2.1 pc = .ok (.istore 4, 2)) (kk : zY Γ ω (pc + 2) (o0 :: o1 :: o2 :: o3 :: some (zI a) :: lv) st μ) : zY Γ ω pc (o0 :: o1 :: o2 :: o3 :: o4 :: lv) (zI a :: st) μ :=
  zY.istoreG hO hd (by simp) (fun o ho => by cases ho; exact Or.inr hp) kk
theorem zY.iinc4 {Γ : zCx} {ω : zOm} {k : zMth} {d pc : Nat} {lv : List (Option Value)} {st : List Value} {μ : zMem} {o0 o1 o2 o3 : Option Value} {a : Int} (b : Int) {n : Int} (hb : a + n = b) (hp : zc1 o3) (hO : zok Γ k d) (hd : decode k.2.1 pc = .ok (.iinc 4 n, 3)) (kk : zY Γ ω (pc + 3) (o0 :: o1 :: o2 :: o3 :: some (zI b) :: lv) st μ) : zY Γ ω pc (o0 :: o1 :: o2 :: o3 :: some (zI a) :: lv) st μ :=
  zY.iincG hO hd rfl hb (fun o ho => by cases ho; exact Or.inr hp) kk
theorem zY.istore5 {Γ : zCx} {ω : zOm} {k : zMth} {d pc : Nat} {lv : List (Option Value)} {st : List Value} {μ : zMem} {o0 o1 o2 o3 o4 o5 : Option Value} {a : Int} (hp : zc1 o4) (hO : zok Γ k d) (hd : decode k.2.1 pc = .ok (.istore 5, 2)) (kk : zY Γ ω (pc + 2) (o0 :: o1 :: o2 :: o3 :: o4 :: some (zI a) :: lv) st μ) : zY Γ ω pc (o0 :: o1 :: o2 :: o3 :: o4 :: o5 :: lv) (zI a :: st) μ :=
  zY.istoreG hO hd (by simp) (fun o ho => by cases ho; exact Or.inr hp) kk
theorem zY.iinc5 {Γ : zCx} {ω : zOm} {k : zMth} {d pc : Nat} {lv : List (Option Value)} {st : List Value} {μ : zMem} {o0 o1 o2 o3 o4 : Option Value} {a : Int} (b : Int) {n : Int} (hb : a + n = b) (hp : zc1 o4) (hO : zok Γ k d) (hd : decode k.2.1 pc = .ok (.iinc 5 n, 3)) (kk : zY Γ ω (pc + 3) (o0 :: o1 :: o2 :: o3 :: o4 :: some (zI b) :: lv) st μ) : zY Γ ω pc (o0 :: o1 :: o2 :: o3 :: o4 :: some (zI a) :: lv) st μ :=
  zY.iincG hO hd rfl hb (fun o ho => by cases ho; exact Or.inr hp) kk
theorem zY.istore6 {Γ : zCx} {ω : zOm} {k : zMth} {d pc : Nat} {lv : List (Option Value)} {st : List Value} {μ : zMem} {o0 o1 o2 o3 o4 o5 o6 : Option Value} {a : Int} (hp : zc1 o5) (hO : zok Γ k d) (hd : decode k.2.1 pc = .ok (.istore 6, 2)) (kk : zY Γ ω (pc + 2) (o0 :: o1 :: o2 :: o3 :: o4 :: o5 :: some (zI a) :: lv) st μ) : zY Γ ω pc (o0 :: o1 :: o2 :: o3 :: o4 :: o5 :: o6 :: lv) (zI a :: st) μ :=
  zY.istoreG hO hd (by simp) (fun o ho => by cases ho; exact Or.inr hp) kk
theorem zY.iinc6 {Γ : zCx} {ω : zOm} {k : zMth} {d pc : Nat} {lv : List (Option Value)} {st : List Value} {μ : zMem} {o0 o1 o2 o3 o4 o5 : Option Value} {a : Int} (b : Int) {n : Int} (hb : a + n = b) (hp : zc1 o5) (hO : zok Γ k d) (hd : decode k.2.1 pc = .ok (.iinc 6 n, 3)) (kk : zY Γ ω (pc + 3) (o0 :: o1 :: o2 :: o3 :: o4 :: o5 :: some (zI b) :: lv) st μ) : zY Γ ω pc (o0 :: o1 :: o2 :: o3 :: o4 :: o5 :: some (zI a) :: lv) st μ :=
  zY.iincG hO hd rfl hb (fun o ho => by cases ho; exact Or.inr hp) kk
theorem zY.istore7 {Γ : zCx} {ω : zOm} {k : zMth} {d pc : Nat} {lv : List (Option Value)} {st : List Value} {μ : zMem} {o0 o1 o2 o3 o4 o5 o6 o7 : Option Value} {a : Int} (hp : zc1 o6) (hO : zok Γ k d) (hd : decode k.2.1 pc = .ok (.istore 7, 2)) (kk : zY Γ ω (pc + 2) (o0 :: o1 :: o2 :: o3 :: o4 :: o5 :: o6 :: some (zI a) :: lv) st μ) : zY Γ ω pc (o0 :: o1 :: o2 :: o3 :: o4 :: o5 :: o6 :: o7 :: lv) (zI a :: st) μ :=
  zY.istoreG hO hd (by simp) (fun o ho => by cases ho; exact Or.inr hp) kk
theorem zY.iinc7 {Γ : zCx} {ω : zOm} {k : zMth} {d pc : Nat} {lv : List (Option Value)} {st : List Value} {μ : zMem} {o0 o1 o2 o3 o4 o5 o6 : Option Value} {a : Int} (b : Int) {n : Int} (hb : a + n = b) (hp : zc1 o6) (hO : zok Γ k d) (hd : decode k.2.1 pc = .ok (.iinc 7 n, 3)) (kk : zY Γ ω (pc + 3) (o0 :: o1 :: o2 :: o3 :: o4 :: o5 :: o6 :: some (zI b) :: lv) st μ) : zY Γ ω pc (o0 :: o1 :: o2 :: o3 :: o4 :: o5 :: o6 :: some (zI a) :: lv) st μ :=
  zY.iincG hO hd rfl hb (fun o ho => by cases ho; exact Or.inr hp) kk
theorem zY.istore8 {Γ : zCx} {ω : zOm} {k : zMth} {d pc : Nat} {lv : List (Option Value)} {st : List Value} {μ : zMem} {o0 o1 o2 o3 o4 o5 o6 o7 o8 : Option Value} {a : Int} (hp : zc1 o7) (hO : zok Γ k d) (hd : decode k.2.1 pc = .ok (.istore 8, 2)) (kk : zY Γ ω (pc + 2) (o0 :: o1 :: o2 :: o3 :: o4 :: o5 :: o6 :: o7 :: some (zI a) :: lv) st μ) : zY Γ ω pc (o0 :: o1 :: o2 :: o3 :: o4 :: o5 :: o6 :: o7 :: o8 :: lv) (zI a :: st) μ :=
  zY.istoreG hO hd (by simp) (fun o ho => by cases ho; exact Or.inr hp) kk
theorem zY.iinc8 {Γ : zCx} {ω : zOm} {k : zMth} {d pc : Nat} {lv : List (Option Value)} {st : List Value} {μ : zMem} {o0 o1 o2 o3 o4 o5 o6 o7 : Option Value} {a : Int} (b : Int) {n : Int} (hb : a + n = b) (hp : zc1 o7) (hO : zok Γ k d) (hd : decode k.2.1 pc = .ok (.iinc 8 n, 3)) (kk : zY Γ ω (pc + 3) (o0 :: o1 :: o2 :: o3 :: o4 :: o5 :: o6 :: o7 :: some (zI b) :: lv) st μ) : zY Γ ω pc (o0 :: o1 :: o2 :: o3 :: o4 :: o5 :: o6 :: o7 :: some (zI a) :: lv) st μ :=
  zY.iincG hO hd rfl hb (fun o ho => by cases ho; exact Or.inr hp) kk
theorem zY.istore9 {Γ : zCx} {ω : zOm} {k : zMth} {d pc : Nat} {lv : List (Option Value)} {st : List Value} {μ : zMem} {o0 o1 o2 o3 o4 o5 o6 o7 o8 o9 : Option Value} {a : Int} (hp : zc1 o8) (hO : zok Γ k d) (hd : decode k.2.1 pc = .ok (.istore 9, 2)) (kk : zY Γ ω (pc + 2) (o0 :: o1 :: o2 :: o3 :: o4 :: o5 :: o6 :: o7 :: o8 :: some (zI a) :: lv) st μ) : zY Γ ω pc (o0 :: o1 :: o2 :: o3 :: o4 :: o5 :: o6 :: o7 :: o8 :: o9 :: lv) (zI a :: st) μ :=
  zY.istoreG hO hd (by simp) (fun o ho => by cases ho; exact Or.inr hp) kk
theorem zY.iinc9 {Γ : zCx} {ω : zOm} {k : zMth} {d pc : Nat} {lv : List (Option Value)} {st : List Value} {μ : zMem} {o0 o1 o2 o3 o4 o5 o6 o7 o8 : Option Value} {a : Int} (b : Int) {n : Int} (hb : a + n = b) (hp : zc1 o8) (hO : zok Γ k d) (hd : decode k.2.1 pc = .ok (.iinc 9 n, 3)) (kk : zY Γ ω (pc + 3) (o0 :: o1 :: o2 :: o3 :: o4 :: o5 :: o6 :: o7 :: o8 :: some (zI b) :: lv) st μ) : zY Γ ω pc (o0 :: o1 :: o2 :: o3 :: o4 :: o5 :: o6 :: o7 :: o8 :: some (zI a) :: lv) st μ :=
  zY.iincG hO hd rfl hb (fun o ho => by cases ho; exact Or.inr hp) kk
theorem zY.istore10 {Γ : zCx} {ω : zOm} {k : zMth} {d pc : Nat} {lv : List (Option Value)} {st : List Value} {μ : zMem} {o0 o1 o2 o3 o4 o5 o6 o7 o8 o9 o10 : Option Value} {a : Int} (hp : zc1 o9) (hO : zok Γ k d) (hd : decode k.2.1 pc = .ok (.istore 10, 2)) (kk : zY Γ ω (pc + 2) (o0 :: o1 :: o2 :: o3 :: o4 :: o5 :: o6 :: o7 :: o8 :: o9 :: some (zI a) :: lv) st μ) : zY Γ ω pc (o0 :: o1 :: o2 :: o3 :: o4 :: o5 :: o6 :: o7 :: o8 :: o9 :: o10 :: lv) (zI a :: st) μ :=
  zY.istoreG hO hd (by simp) (fun o ho => by cases ho; exact Or.inr hp) kk
theorem zY.iinc10 {Γ : zCx} {ω : zOm} {k : zMth} {d pc : Nat} {lv : List (Option Value)} {st : List Value} {μ : zMem} {o0 o1 o2 o3 o4 o5 o6 o7 o8 o9 : Option Value} {a : Int} (b : Int) {n : Int} (hb : a + n = b) (hp : zc1 o9) (hO : zok Γ k d) (hd : decode k.2.1 pc = .ok (.iinc 10 n, 3)) (kk : zY Γ ω (pc + 3) (o0 :: o1 :: o2 :: o3 :: o4 :: o5 :: o6 :: o7 :: o8 :: o9 :: some (zI b) :: lv) st μ) : zY Γ ω pc (o0 :: o1 :: o2 :: o3 :: o4 :: o5 :: o6 :: o7 :: o8 :: o9 :: some (zI a) :: lv) st μ :=
  zY.iincG hO hd rfl hb (fun o ho => by cases ho; exact Or.inr hp) kk
theorem zY.istore11 {Γ : zCx} {ω : zOm} {k : zMth} {d pc : Nat} {lv : List (Option Value)} {st : List Value} {μ : zMem} {o0 o1 o2 o3 o4 o5 o6 o7 o8 o9 o10 o11 : Option Value} {a : Int} (hp : zc1 o10) (hO : zok Γ k d) (hd : decode k.2.1 pc = .ok (.istore 11, 2)) (kk : zY Γ ω (pc + 2) (o0 :: o1 :: o2 :: o3 :: o4 :: o5 :: o6 :: o7 :: o8 :: o9 :: o10 :: some (zI a) :: lv) st μ) : zY Γ ω pc (o0 :: o1 :: o2 :: o3 :: o4 :: o5 :: o6 :: o7 :: o8 :: o9 :: o10 :: o11 :: lv) (zI a :: st) μ :=
  zY.istoreG hO hd (by simp) (fun o ho => by cases ho; exact Or.inr hp) kk
theorem zY.iinc11 {Γ : zCx} {ω : zOm} {k : zMth} {d pc : Nat} {lv : List (Option Value)} {st : List Value} {μ : zMem} {o0 o1 o2 o3 o4 o5 o6 o7 o8 o9 o10 : Option Value} {a : Int} (b : Int) {n : Int} (hb : a + n = b) (hp : zc1 o10) (hO : zok Γ k d) (hd : decode k.2.1 pc = .ok (.iinc 11 n, 3)) (kk : zY Γ ω (pc + 3) (o0 :: o1 :: o2 :: o3 :: o4 :: o5 :: o6 :: o7 :: o8 :: o9 :: o10 :: some (zI b) :: lv) st μ) : zY Γ ω pc (o0 :: o1 :: o2 :: o3 :: o4 :: o5 :: o6 :: o7 :: o8 :: o9 :: o10 :: some (zI a) :: lv) st μ :=
  zY.iincG hO hd rfl hb (fun o ho => by cases ho; exact Or.inr hp) kk
theorem zY.istore12 {Γ : zCx} {ω : zOm} {k : zMth} {d pc : Nat} {lv : List (Option Value)} {st : List Value} {μ : zMem} {o0 o1 o2 o3 o4 o5 o6 o7 o8 o9 o10 o11 o12 : Option Value} {a : Int} (hp : zc1 o11) (hO : zok Γ k d) (hd : decode k.2.1 pc = .ok (.istore 12, 2)) (kk : zY Γ ω (pc + 2) (o0 :: o1 :: o2 :: o3 :: o4 :: o5 :: o6 :: o7 :: o8 :: o9 :: o10 :: o11 :: some (zI a) :: lv) st μ) : zY Γ ω pc (o0 :: o1 :: o2 :: o3 :: o4 :: o5 :: o6 :: o7 :: o8 :: o9 :: o10 :: o11 :: o12 :: lv) (zI a :: st) μ :=
  zY.istoreG hO hd (by simp) (fun o ho => by cases ho; exact Or.inr hp) kk
theorem zY.iinc12 {Γ : zCx} {ω : zOm} {k : zMth} {d pc : Nat} {lv : List (Option Value)} {st : List Value} {μ : zMem} {o0 o1 o2 o3 o4 o5 o6 o7 o8 o9 o10 o11 : Option Value} {a : Int} (b : Int) {n : Int} (hb : a + n = b) (hp : zc1 o11) (hO : zok Γ k d) (hd : decode k.2.1 pc = .ok (.iinc 12 n, 3)) (kk : zY Γ ω (pc + 3) (o0 :: o1 :: o2 :: o3 :: o4 :: o5 :: o6 :: o7 :: o8 :: o9 :: o10 :: o11 :: some (zI b) :: lv) st μ) : zY Γ ω pc (o0 :: o1 :: o2 :: o3 :: o4 :: o5 :: o6 :: o7 :: o8 :: o9 :: o10 :: o11 :: some (zI a) :: lv) st μ :=
  zY.iincG hO hd rfl hb (fun o ho => by cases ho; exact Or.inr hp) kk
theorem zc1_I (a : Int) : zc1 (some (zI a)) := fun v h => by cases h; rfl
theorem zc1_P (q : Nat) : zc1 (some (zP q)) := fun v h => by cases h; rfl
theorem zc1_N : zc1 none := fun v h => by cases h
