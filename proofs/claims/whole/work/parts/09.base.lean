/-! contracts by the kind of answer; calls with them; loops -/
abbrev Ci (k : zMth) (d n : Nat) (sh : Nat → zShc) (av : List Value) (μ : zMem) (post : Int → zMem → Prop) : Prop := Ct k d n sh av μ (fun r μ' => ∃ a, r = some (zI a) ∧ post a μ')
abbrev Cl (k : zMth) (d n : Nat) (sh : Nat → zShc) (av : List Value) (μ : zMem) (post : Int → zMem → Prop) : Prop := Ct k d n sh av μ (fun r μ' => ∃ a, r = some (zJ a) ∧ post a μ')
abbrev Cv (k : zMth) (d n : Nat) (sh : Nat → zShc) (av : List Value) (μ : zMem) (post : zMem → Prop) : Prop := Ct k d n sh av μ (fun r μ' => r = none ∧ post μ')
abbrev Cr (k : zMth) (d n : Nat) (sh : Nat → zShc) (av : List Value) (μ : zMem) (post : Nat → zMem → Prop) : Prop := Ct k d n sh av μ (fun r μ' => ∃ q, r = some (zP q) ∧ post q μ')
theorem Ci.imp {k : zMth} {d n : Nat} {sh : Nat → zShc} {av : List Value} {μ : zMem} {post post' : Int → zMem → Prop} (h : Ci k d n sh av μ post) (hp : ∀ a μ', post a μ' → post' a μ') : Ci k d n sh av μ post' := Ct.weaken h (fun r μ' ⟨a, h1, h2⟩ => ⟨a, h1, hp a μ' h2⟩)
theorem Cv.imp {k : zMth} {d n : Nat} {sh : Nat → zShc} {av : List Value} {μ : zMem} {post post' : zMem → Prop} (h : Cv k d n sh av μ post) (hp : ∀ μ', post μ' → post' μ') : Cv k d n sh av μ post' := Ct.weaken h (fun r μ' ⟨h1, h2⟩ => ⟨h1, hp μ' h2⟩)
theorem Cl.imp {k : zMth} {d n : Nat} {sh : Nat → zShc} {av : List Value} {μ : zMem} {post post' : Int → zMem → Prop} (h : Cl k d n sh av μ post) (hp : ∀ a μ', post a μ' → post' a μ') : Cl k d n sh av μ post' := Ct.weaken h (fun r μ' ⟨a, h1, h2⟩ => ⟨a, h1, hp a μ' h2⟩)
/-- a deeper room serves as well -/
theorem zdown {P : Nat → Prop} (N : Nat) (h : ∀ i, i ≤ N → (i < N → P (i + 1)) → P i) : ∀ i, i ≤ N → P i := by
  intro i hi
  obtain ⟨k, hk⟩ : ∃ k, k = N - i := ⟨_, rfl⟩
  induction k generalizing i with
  | zero => exact h i hi (fun z => by omega)
  | succ k ih => exact h i hi (fun z => ih (i + 1) z (by omega))
theorem zup {P : Nat → Prop} (h : ∀ i, (∀ j, j < i → P j) → P i) : ∀ i, P i := fun i => Nat.strongRecOn i h
theorem zY.lds {Γ : zCx} {ω : zOm} {pc : Nat} {lv lv' : List (Option Value)} {st : List Value} {μ : zMem} (hlen : lv'.length = lv.length) (h : ∀ (k : Nat) (v : Value), lv'[k]? = some (some v) → lv[k]? = some (some v)) (kk : zY Γ ω pc lv' st μ) : zY Γ ω pc lv st μ :=
  fun H locs ls hW hS hL => kk H locs ls hW hS ⟨hL.1.trans hlen.symm, hL.2.1, fun k v hk => hL.2.2 k v (h k v hk)⟩
theorem zY.callV0i {Γ : zCx} {ω : zOm} {k kc : zMth} {d dc pc idx : Nat} {lv : List (Option Value)} {rest : List Value} {μ : zMem} {q ci : Nat} {fl : List (Nat × Nat)} {T : u_T} {N : Nat} {post : Int → zMem → Prop} (hc : Ci kc dc ω.1 ω.2.1 [zP q] μ post) (hdd : dc + 1 ≤ d) (hk : zCalV kc 0) (hlk : Cond.methodLink k.1.cls idx kc.1 ∈ zT) (hq : q < ω.1) (hs : ω.2.1 q = (0, ci, fl)) (hcl : vwCl[ci]? = some (kc.1.cls, T, N)) (hrs : (rest.map fun v => v.category).sum ≤ 8) (hll : lv.length = k.2.2.1) (hcs : ω.2.2.2.1 ≤ Γ.1.2.2.2.cells ∧ ω.2.2.2.2 ≤ Γ.1.2.2.2.slots) (hO : zok Γ k d) (hd : decode k.2.1 pc = .ok (.invokevirtual idx, 3)) (kk : ∀ a μ', post a μ' → zY Γ ω (pc + 3) lv (zI a :: rest) μ') : zY Γ ω pc lv (zP q :: rest) μ :=
  zY.callV0 hc hdd hk hlk hq hs hcl hrs hll hcs hO hd (fun r μ' ⟨a, h1, h2⟩ => by subst h1; exact kk a μ' h2)
theorem zY.callV0iD {Γ : zCx} {ω : zOm} {k kc : zMth} {d dc pc idx : Nat} {lv : List (Option Value)} {rest : List Value} {μ : zMem} {q ci : Nat} {fl : List (Nat × Nat)} {T : u_T} {N : Nat} {μ1 : zMem} {e : Int} (hc : Ci kc dc ω.1 ω.2.1 [zP q] μ (fun a μ' => a = e ∧ μ' = μ1)) (hdd : dc + 1 ≤ d) (hk : zCalV kc 0) (hlk : Cond.methodLink k.1.cls idx kc.1 ∈ zT) (hq : q < ω.1) (hs : ω.2.1 q = (0, ci, fl)) (hcl : vwCl[ci]? = some (kc.1.cls, T, N)) (hrs : (rest.map fun v => v.category).sum ≤ 8) (hll : lv.length = k.2.2.1) (hcs : ω.2.2.2.1 ≤ Γ.1.2.2.2.cells ∧ ω.2.2.2.2 ≤ Γ.1.2.2.2.slots) (hO : zok Γ k d) (hd : decode k.2.1 pc = .ok (.invokevirtual idx, 3)) (kk : zY Γ ω (pc + 3) lv (zI e :: rest) μ1) : zY Γ ω pc lv (zP q :: rest) μ :=
  zY.callV0 hc hdd hk hlk hq hs hcl hrs hll hcs hO hd (fun r μ' ⟨a, h1, h2, h3⟩ => by subst h1; subst h2; subst h3; exact kk)
theorem zY.callV0l {Γ : zCx} {ω : zOm} {k kc : zMth} {d dc pc idx : Nat} {lv : List (Option Value)} {rest : List Value} {μ : zMem} {q ci : Nat} {fl : List (Nat × Nat)} {T : u_T} {N : Nat} {post : Int → zMem → Prop} (hc : Cl kc dc ω.1 ω.2.1 [zP q] μ post) (hdd : dc + 1 ≤ d) (hk : zCalV kc 0) (hlk : Cond.methodLink k.1.cls idx kc.1 ∈ zT) (hq : q < ω.1) (hs : ω.2.1 q = (0, ci, fl)) (hcl : vwCl[ci]? = some (kc.1.cls, T, N)) (hrs : (rest.map fun v => v.category).sum ≤ 8) (hll : lv.length = k.2.2.1) (hcs : ω.2.2.2.1 ≤ Γ.1.2.2.2.cells ∧ ω.2.2.2.2 ≤ Γ.1.2.2.2.slots) (hO : zok Γ k d) (hd : decode k.2.1 pc = .ok (.invokevirtual idx, 3)) (kk : ∀ a μ', post a μ' → zY Γ ω (pc + 3) lv (zJ a :: rest) μ') : zY Γ ω pc lv (zP q :: rest) μ :=
  zY.callV0 hc hdd hk hlk hq hs hcl hrs hll hcs hO hd (fun r μ' ⟨a, h1, h2⟩ => by subst h1; exact kk a μ' h2)
theorem zY.callV0lD {Γ : zCx} {ω : zOm} {k kc : zMth} {d dc pc idx : Nat} {lv : List (Option Value)} {rest : List Value} {μ : zMem} {q ci : Nat} {fl : List (Nat × Nat)} {T : u_T} {N : Nat} {μ1 : zMem} {e : Int} (hc : Cl kc dc ω.1 ω.2.1 [zP q] μ (fun a μ' => a = e ∧ μ' = μ1)) (hdd : dc + 1 ≤ d) (hk : zCalV kc 0) (hlk : Cond.methodLink k.1.cls idx kc.1 ∈ zT) (hq : q < ω.1) (hs : ω.2.1 q = (0, ci, fl)) (hcl : vwCl[ci]? = some (kc.1.cls, T, N)) (hrs : (rest.map fun v => v.category).sum ≤ 8) (hll : lv.length = k.2.2.1) (hcs : ω.2.2.2.1 ≤ Γ.1.2.2.2.cells ∧ ω.2.2.2.2 ≤ Γ.1.2.2.2.slots) (hO : zok Γ k d) (hd : decode k.2.1 pc = .ok (.invokevirtual idx, 3)) (kk : zY Γ ω (pc + 3) lv (zJ e :: rest) μ1) : zY Γ ω pc lv (zP q :: rest) μ :=
  zY.callV0 hc hdd hk hlk hq hs hcl hrs hll hcs hO hd (fun r μ' ⟨a, h1, h2, h3⟩ => by subst h1; subst h2; subst h3; exact kk)
theorem zY.callV0v {Γ : zCx} {ω : zOm} {k kc : zMth} {d dc pc idx : Nat} {lv : List (Option Value)} {rest : List Value} {μ : zMem} {q ci : Nat} {fl : List (Nat × Nat)} {T : u_T} {N : Nat} {post : zMem → Prop} (hc : Cv kc dc ω.1 ω.2.1 [zP q] μ post) (hdd : dc + 1 ≤ d) (hk : zCalV kc 0) (hlk : Cond.methodLink k.1.cls idx kc.1 ∈ zT) (hq : q < ω.1) (hs : ω.2.1 q = (0, ci, fl)) (hcl : vwCl[ci]? = some (kc.1.cls, T, N)) (hrs : (rest.map fun v => v.category).sum ≤ 8) (hll : lv.length = k.2.2.1) (hcs : ω.2.2.2.1 ≤ Γ.1.2.2.2.cells ∧ ω.2.2.2.2 ≤ Γ.1.2.2.2.slots) (hO : zok Γ k d) (hd : decode k.2.1 pc = .ok (.invokevirtual idx, 3)) (kk : ∀ μ', post μ' → zY Γ ω (pc + 3) lv rest μ') : zY Γ ω pc lv (zP q :: rest) μ :=
  zY.callV0 hc hdd hk hlk hq hs hcl hrs hll hcs hO hd (fun r μ' ⟨h1, h2⟩ => by subst h1; exact kk μ' h2)
theorem zY.callV0vD {Γ : zCx} {ω : zOm} {k kc : zMth} {d dc pc idx : Nat} {lv : List (Option Value)} {rest : List Value} {μ : zMem} {q ci : Nat} {fl : List (Nat × Nat)} {T : u_T} {N : Nat} {μ1 : zMem} (hc : Cv kc dc ω.1 ω.2.1 [zP q] μ (fun μ' => μ' = μ1)) (hdd : dc + 1 ≤ d) (hk : zCalV kc 0) (hlk : Cond.methodLink k.1.cls idx kc.1 ∈ zT) (hq : q < ω.1) (hs : ω.2.1 q = (0, ci, fl)) (hcl : vwCl[ci]? = some (kc.1.cls, T, N)) (hrs : (rest.map fun v => v.category).sum ≤ 8) (hll : lv.length = k.2.2.1) (hcs : ω.2.2.2.1 ≤ Γ.1.2.2.2.cells ∧ ω.2.2.2.2 ≤ Γ.1.2.2.2.slots) (hO : zok Γ k d) (hd : decode k.2.1 pc = .ok (.invokevirtual idx, 3)) (kk : zY Γ ω (pc + 3) lv (rest) μ1) : zY Γ ω pc lv (zP q :: rest) μ :=
  zY.callV0 hc hdd hk hlk hq hs hcl hrs hll hcs hO hd (fun r μ' ⟨h1, h3⟩ => by subst h1; subst h3; exact kk)
theorem zY.callV0r {Γ : zCx} {ω : zOm} {k kc : zMth} {d dc pc idx : Nat} {lv : List (Option Value)} {rest : List Value} {μ : zMem} {q ci : Nat} {fl : List (Nat × Nat)} {T : u_T} {N : Nat} {post : Nat → zMem → Prop} (hc : Cr kc dc ω.1 ω.2.1 [zP q] μ post) (hdd : dc + 1 ≤ d) (hk : zCalV kc 0) (hlk : Cond.methodLink k.1.cls idx kc.1 ∈ zT) (hq : q < ω.1) (hs : ω.2.1 q = (0, ci, fl)) (hcl : vwCl[ci]? = some (kc.1.cls, T, N)) (hrs : (rest.map fun v => v.category).sum ≤ 8) (hll : lv.length = k.2.2.1) (hcs : ω.2.2.2.1 ≤ Γ.1.2.2.2.cells ∧ ω.2.2.2.2 ≤ Γ.1.2.2.2.slots) (hO : zok Γ k d) (hd : decode k.2.1 pc = .ok (.invokevirtual idx, 3)) (kk : ∀ a μ', post a μ' → zY Γ ω (pc + 3) lv (zP a :: rest) μ') : zY Γ ω pc lv (zP q :: rest) μ :=
  zY.callV0 hc hdd hk hlk hq hs hcl hrs hll hcs hO hd (fun r μ' ⟨a, h1, h2⟩ => by subst h1; exact kk a μ' h2)
theorem zY.callV0rD {Γ : zCx} {ω : zOm} {k kc : zMth} {d dc pc idx : Nat} {lv : List (Option Value)} {rest : List Value} {μ : zMem} {q ci : Nat} {fl : List (Nat × Nat)} {T : u_T} {N : Nat} {μ1 : zMem} {e : Nat} (hc : Cr kc dc ω.1 ω.2.1 [zP q] μ (fun a μ' => a = e ∧ μ' = μ1)) (hdd : dc + 1 ≤ d) (hk : zCalV kc 0) (hlk : Cond.methodLink k.1.cls idx kc.1 ∈ zT) (hq : q < ω.1) (hs : ω.2.1 q = (0, ci, fl)) (hcl : vwCl[ci]? = some (kc.1.cls, T, N)) (hrs : (rest.map fun v => v.category).sum ≤ 8) (hll : lv.length = k.2.2.1) (hcs : ω.2.2.2.1 ≤ Γ.1.2.2.2.cells ∧ ω.2.2.2.2 ≤ Γ.1.2.2.2.slots) (hO : zok Γ k d) (hd : decode k.2.1 pc = .ok (.invokevirtual idx, 3)) (kk : zY Γ ω (pc + 3) lv (zP e :: rest) μ1) : zY Γ ω pc lv (zP q :: rest) μ :=
  zY.callV0 hc hdd hk hlk hq hs hcl hrs hll hcs hO hd (fun r μ' ⟨a, h1, h2, h3⟩ => by subst h1; subst h2; subst h3; exact kk)
theorem zY.callV1i {Γ : zCx} {ω : zOm} {k kc : zMth} {d dc pc idx : Nat} {lv : List (Option Value)} {rest : List Value} {μ : zMem} {v1 : Value} {q ci : Nat} {fl : List (Nat × Nat)} {T : u_T} {N : Nat} {post : Int → zMem → Prop} (hc : Ci kc dc ω.1 ω.2.1 [zP q, v1] μ post) (hdd : dc + 1 ≤ d) (hk : zCalV kc 1) (hlk : Cond.methodLink k.1.cls idx kc.1 ∈ zT) (hq : q < ω.1) (hs : ω.2.1 q = (0, ci, fl)) (hcl : vwCl[ci]? = some (kc.1.cls, T, N)) (hrs : (rest.map fun v => v.category).sum ≤ 8) (hll : lv.length = k.2.2.1) (hcs : ω.2.2.2.1 ≤ Γ.1.2.2.2.cells ∧ ω.2.2.2.2 ≤ Γ.1.2.2.2.slots) (hO : zok Γ k d) (hd : decode k.2.1 pc = .ok (.invokevirtual idx, 3)) (kk : ∀ a μ', post a μ' → zY Γ ω (pc + 3) lv (zI a :: rest) μ') : zY Γ ω pc lv (v1 :: zP q :: rest) μ :=
  zY.callV1 hc hdd hk hlk hq hs hcl hrs hll hcs hO hd (fun r μ' ⟨a, h1, h2⟩ => by subst h1; exact kk a μ' h2)
theorem zY.callV1iD {Γ : zCx} {ω : zOm} {k kc : zMth} {d dc pc idx : Nat} {lv : List (Option Value)} {rest : List Value} {μ : zMem} {v1 : Value} {q ci : Nat} {fl : List (Nat × Nat)} {T : u_T} {N : Nat} {μ1 : zMem} {e : Int} (hc : Ci kc dc ω.1 ω.2.1 [zP q, v1] μ (fun a μ' => a = e ∧ μ' = μ1)) (hdd : dc + 1 ≤ d) (hk : zCalV kc 1) (hlk : Cond.methodLink k.1.cls idx kc.1 ∈ zT) (hq : q < ω.1) (hs : ω.2.1 q = (0, ci, fl)) (hcl : vwCl[ci]? = some (kc.1.cls, T, N)) (hrs : (rest.map fun v => v.category).sum ≤ 8) (hll : lv.length = k.2.2.1) (hcs : ω.2.2.2.1 ≤ Γ.1.2.2.2.cells ∧ ω.2.2.2.2 ≤ Γ.1.2.2.2.slots) (hO : zok Γ k d) (hd : decode k.2.1 pc = .ok (.invokevirtual idx, 3)) (kk : zY Γ ω (pc + 3) lv (zI e :: rest) μ1) : zY Γ ω pc lv (v1 :: zP q :: rest) μ :=
  zY.callV1 hc hdd hk hlk hq hs hcl hrs hll hcs hO hd (fun r μ' ⟨a, h1, h2, h3⟩ => by subst h1; subst h2; subst h3; exact kk)
theorem zY.callV1l {Γ : zCx} {ω : zOm} {k kc : zMth} {d dc pc idx : Nat} {lv : List (Option Value)} {rest : List Value} {μ : zMem} {v1 : Value} {q ci : Nat} {fl : List (Nat × Nat)} {T : u_T} {N : Nat} {post : Int → zMem → Prop} (hc : Cl kc dc ω.1 ω.2.1 [zP q, v1] μ post) (hdd : dc + 1 ≤ d) (hk : zCalV kc 1) (hlk : Cond.methodLink k.1.cls idx kc.1 ∈ zT) (hq : q < ω.1) (hs : ω.2.1 q = (0, ci, fl)) (hcl : vwCl[ci]? = some (kc.1.cls, T, N)) (hrs : (rest.map fun v => v.category).sum ≤ 8) (hll : lv.length = k.2.2.1) (hcs : ω.2.2.2.1 ≤ Γ.1.2.2.2.cells ∧ ω.2.2.2.2 ≤ Γ.1.2.2.2.slots) (hO : zok Γ k d) (hd : decode k.2.1 pc = .ok (.invokevirtual idx, 3)) (kk : ∀ a μ', post a μ' → zY Γ ω (pc + 3) lv (zJ a :: rest) μ') : zY Γ ω pc lv (v1 :: zP q :: rest) μ :=
  zY.callV1 hc hdd hk hlk hq hs hcl hrs hll hcs hO hd (fun r μ' ⟨a, h1, h2⟩ => by subst h1; exact kk a μ' h2)
theorem zY.callV1lD {Γ : zCx} {ω : zOm} {k kc : zMth} {d dc pc idx : Nat} {lv : List (Option Value)} {rest : List Value} {μ : zMem} {v1 : Value} {q ci : Nat} {fl : List (Nat × Nat)} {T : u_T} {N : Nat} {μ1 : zMem} {e : Int} (hc : Cl kc dc ω.1 ω.2.1 [zP q, v1] μ (fun a μ' => a = e ∧ μ' = μ1)) (hdd : dc + 1 ≤ d) (hk : zCalV kc 1) (hlk : Cond.methodLink k.1.cls idx kc.1 ∈ zT) (hq : q < ω.1) (hs : ω.2.1 q = (0, ci, fl)) (hcl : vwCl[ci]? = some (kc.1.cls, T, N)) (hrs : (rest.map fun v => v.category).sum ≤ 8) (hll : lv.length = k.2.2.1) (hcs : ω.2.2.2.1 ≤ Γ.1.2.2.2.cells ∧ ω.2.2.2.2 ≤ Γ.1.2.2.2.slots) (hO : zok Γ k d) (hd : decode k.2.1 pc = .ok (.invokevirtual idx, 3)) (kk : zY Γ ω (pc + 3) lv (zJ e :: rest) μ1) : zY Γ ω pc lv (v1 :: zP q :: rest) μ :=
  zY.callV1 hc hdd hk hlk hq hs hcl hrs hll hcs hO hd (fun r μ' ⟨a, h1, h2, h3⟩ => by subst h1; subst h2; subst h3; exact kk)
theorem zY.callV1v {Γ : zCx} {ω : zOm} {k kc : zMth} {d dc pc idx : Nat} {lv : List (Option Value)} {rest : List Value} {μ : zMem} {v1 : Value} {q ci : Nat} {fl : List (Nat × Nat)} {T : u_T} {N : Nat} {post : zMem → Prop} (hc : Cv kc dc ω.1 ω.2.1 [zP q, v1] μ post) (hdd : dc + 1 ≤ d) (hk : zCalV kc 1) (hlk : Cond.methodLink k.1.cls idx kc.1 ∈ zT) (hq : q < ω.1) (hs : ω.2.1 q = (0, ci, fl)) (hcl : vwCl[ci]? = some (kc.1.cls, T, N)) (hrs : (rest.map fun v => v.category).sum ≤ 8) (hll : lv.length = k.2.2.1) (hcs : ω.2.2.2.1 ≤ Γ.1.2.2.2.cells ∧ ω.2.2.2.2 ≤ Γ.1.2.2.2.slots) (hO : zok Γ k d) (hd : decode k.2.1 pc = .ok (.invokevirtual idx, 3)) (kk : ∀ μ', post μ' → zY Γ ω (pc + 3) lv rest μ') : zY Γ ω pc lv (v1 :: zP q :: rest) μ :=
  zY.callV1 hc hdd hk hlk hq hs hcl hrs hll hcs hO hd (fun r μ' ⟨h1, h2⟩ => by subst h1; exact kk μ' h2)
theorem zY.callV1vD {Γ : zCx} {ω : zOm} {k kc : zMth} {d dc pc idx : Nat} {lv : List (Option Value)} {rest : List Value} {μ : zMem} {v1 : Value} {q ci : Nat} {fl : List (Nat × Nat)} {T : u_T} {N : Nat} {μ1 : zMem} (hc : Cv kc dc ω.1 ω.2.1 [zP q, v1] μ (fun μ' => μ' = μ1)) (hdd : dc + 1 ≤ d) (hk : zCalV kc 1) (hlk : Cond.methodLink k.1.cls idx kc.1 ∈ zT) (hq : q < ω.1) (hs : ω.2.1 q = (0, ci, fl)) (hcl : vwCl[ci]? = some (kc.1.cls, T, N)) (hrs : (rest.map fun v => v.category).sum ≤ 8) (hll : lv.length = k.2.2.1) (hcs : ω.2.2.2.1 ≤ Γ.1.2.2.2.cells ∧ ω.2.2.2.2 ≤ Γ.1.2.2.2.slots) (hO : zok Γ k d) (hd : decode k.2.1 pc = .ok (.invokevirtual idx, 3)) (kk : zY Γ ω (pc + 3) lv (rest) μ1) : zY Γ ω pc lv (v1 :: zP q :: rest) μ :=
  zY.callV1 hc hdd hk hlk hq hs hcl hrs hll hcs hO hd (fun r μ' ⟨h1, h3⟩ => by subst h1; subst h3; exact kk)
theorem zY.callV1r {Γ : zCx} {ω : zOm} {k kc : zMth} {d dc pc idx : Nat} {lv : List (Option Value)} {rest : List Value} {μ : zMem} {v1 : Value} {q ci : Nat} {fl : List (Nat × Nat)} {T : u_T} {N : Nat} {post : Nat → zMem → Prop} (hc : Cr kc dc ω.1 ω.2.1 [zP q, v1] μ post) (hdd : dc + 1 ≤ d) (hk : zCalV kc 1) (hlk : Cond.methodLink k.1.cls idx kc.1 ∈ zT) (hq : q < ω.1) (hs : ω.2.1 q = (0, ci, fl)) (hcl : vwCl[ci]? = some (kc.1.cls, T, N)) (hrs : (rest.map fun v => v.category).sum ≤ 8) (hll : lv.length = k.2.2.1) (hcs : ω.2.2.2.1 ≤ Γ.1.2.2.2.cells ∧ ω.2.2.2.2 ≤ Γ.1.2.2.2.slots) (hO : zok Γ k d) (hd : decode k.2.1 pc = .ok (.invokevirtual idx, 3)) (kk : ∀ a μ', post a μ' → zY Γ ω (pc + 3) lv (zP a :: rest) μ') : zY Γ ω pc lv (v1 :: zP q :: rest) μ :=
  zY.callV1 hc hdd hk hlk hq hs hcl hrs hll hcs hO hd (fun r μ' ⟨a, h1, h2⟩ => by subst h1; exact kk a μ' h2)
theorem zY.callV1rD {Γ : zCx} {ω : zOm} {k kc : zMth} {d dc pc idx : Nat} {lv : List (Option Value)} {rest : List Value} {μ : zMem} {v1 : Value} {q ci : Nat} {fl : List (Nat × Nat)} {T : u_T} {N : Nat} {μ1 : zMem} {e : Nat} (hc : Cr kc dc ω.1 ω.2.1 [zP q, v1] μ (fun a μ' => a = e ∧ μ' = μ1)) (hdd : dc + 1 ≤ d) (hk : zCalV kc 1) (hlk : Cond.methodLink k.1.cls idx kc.1 ∈ zT) (hq : q < ω.1) (hs : ω.2.1 q = (0, ci, fl)) (hcl : vwCl[ci]? = some (kc.1.cls, T, N)) (hrs : (rest.map fun v => v.category).sum ≤ 8) (hll : lv.length = k.2.2.1) (hcs : ω.2.2.2.1 ≤ Γ.1.2.2.2.cells ∧ ω.2.2.2.2 ≤ Γ.1.2.2.2.slots) (hO : zok Γ k d) (hd : decode k.2.1 pc = .ok (.invokevirtual idx, 3)) (kk : zY Γ ω (pc + 3) lv (zP e :: rest) μ1) : zY Γ ω pc lv (v1 :: zP q :: rest) μ :=
  zY.callV1 hc hdd hk hlk hq hs hcl hrs hll hcs hO hd (fun r μ' ⟨a, h1, h2, h3⟩ => by subst h1; subst h2; subst h3; exact kk)
theorem zY.callV2i {Γ : zCx} {ω : zOm} {k kc : zMth} {d dc pc idx : Nat} {lv : List (Option Value)} {rest : List Value} {μ : zMem} {v1 v2 : Value} {q ci : Nat} {fl : List (Nat × Nat)} {T : u_T} {N : Nat} {post : Int → zMem → Prop} (hc : Ci kc dc ω.1 ω.2.1 [zP q, v1, v2] μ post) (hdd : dc + 1 ≤ d) (hk : zCalV kc 2) (hlk : Cond.methodLink k.1.cls idx kc.1 ∈ zT) (hq : q < ω.1) (hs : ω.2.1 q = (0, ci, fl)) (hcl : vwCl[ci]? = some (kc.1.cls, T, N)) (hrs : (rest.map fun v => v.category).sum ≤ 8) (hll : lv.length = k.2.2.1) (hcs : ω.2.2.2.1 ≤ Γ.1.2.2.2.cells ∧ ω.2.2.2.2 ≤ Γ.1.2.2.2.slots) (hO : zok Γ k d) (hd : decode k.2.1 pc = .ok (.invokevirtual idx, 3)) (kk : ∀ a μ', post a μ' → zY Γ ω (pc + 3) lv (zI a :: rest) μ') : zY Γ ω pc lv (v2 :: v1 :: zP q :: rest) μ :=
  zY.callV2 hc hdd hk hlk hq hs hcl hrs hll hcs hO hd (fun r μ' ⟨a, h1, h2⟩ => by subst h1; exact kk a μ' h2)
theorem zY.callV2iD {Γ : zCx} {ω : zOm} {k kc : zMth} {d dc pc idx : Nat} {lv : List (Option Value)} {rest : List Value} {μ : zMem} {v1 v2 : Value} {q ci : Nat} {fl : List (Nat × Nat)} {T : u_T} {N : Nat} {μ1 : zMem} {e : Int} (hc : Ci kc dc ω.1 ω.2.1 [zP q, v1, v2] μ (fun a μ' => a = e ∧ μ' = μ1)) (hdd : dc + 1 ≤ d) (hk : zCalV kc 2) (hlk : Cond.methodLink k.1.cls idx kc.1 ∈ zT) (hq : q < ω.1) (hs : ω.2.1 q = (0, ci, fl)) (hcl : vwCl[ci]? = some (kc.1.cls, T, N)) (hrs : (rest.map fun v => v.category).sum ≤ 8) (hll : lv.length = k.2.2.1) (hcs : ω.2.2.2.1 ≤ Γ.1.2.2.2.cells ∧ ω.2.2.2.2 ≤ Γ.1.2.2.2.slots) (hO : zok Γ k d) (hd : decode k.2.1 pc = .ok (.invokevirtual idx, 3)) (kk : zY Γ ω (pc + 3) lv (zI e :: rest) μ1) : zY Γ ω pc lv (v2 :: v1 :: zP q :: rest) μ :=
  zY.callV2 hc hdd hk hlk hq hs hcl hrs hll hcs hO hd (fun r μ' ⟨a, h1, h2, h3⟩ => by subst h1; subst h2; subst h3; exact kk)
theorem zY.callV2v {Γ : zCx} {ω : zOm} {k kc : zMth} {d dc pc idx : Nat} {lv : List (Option Value)} {rest : List Value} {μ : zMem} {v1 v2 : Value} {q ci : Nat} {fl : List (Nat × Nat)} {T : u_T} {N : Nat} {post : zMem → Prop} (hc : Cv kc dc ω.1 ω.2.1 [zP q, v1, v2] μ post) (hdd : dc + 1 ≤ d) (hk : zCalV kc 2) (hlk : Cond.methodLink k.1.cls idx kc.1 ∈ zT) (hq : q < ω.1) (hs : ω.2.1 q = (0, ci, fl)) (hcl : vwCl[ci]? = some (kc.1.cls, T, N)) (hrs : (rest.map fun v => v.category).sum ≤ 8) (hll : lv.length = k.2.2.1) (hcs : ω.2.2.2.1 ≤ Γ.1.2.2.2.cells ∧ ω.2.2.2.2 ≤ Γ.1.2.2.2.slots) (hO : zok Γ k d) (hd : decode k.2.1 pc = .ok (.invokevirtual idx, 3)) (kk : ∀ μ', post μ' → zY Γ ω (pc + 3) lv rest μ') : zY Γ ω pc lv (v2 :: v1 :: zP q :: rest) μ :=
  zY.callV2 hc hdd hk hlk hq hs hcl hrs hll hcs hO hd (fun r μ' ⟨h1, h2⟩ => by subst h1; exact kk μ' h2)
theorem zY.callV2vD {Γ : zCx} {ω : zOm} {k kc : zMth} {d dc pc idx : Nat} {lv : List (Option Value)} {rest : List Value} {μ : zMem} {v1 v2 : Value} {q ci : Nat} {fl : List (Nat × Nat)} {T : u_T} {N : Nat} {μ1 : zMem} (hc : Cv kc dc ω.1 ω.2.1 [zP q, v1, v2] μ (fun μ' => μ' = μ1)) (hdd : dc + 1 ≤ d) (hk : zCalV kc 2) (hlk : Cond.methodLink k.1.cls idx kc.1 ∈ zT) (hq : q < ω.1) (hs : ω.2.1 q = (0, ci, fl)) (hcl : vwCl[ci]? = some (kc.1.cls, T, N)) (hrs : (rest.map fun v => v.category).sum ≤ 8) (hll : lv.length = k.2.2.1) (hcs : ω.2.2.2.1 ≤ Γ.1.2.2.2.cells ∧ ω.2.2.2.2 ≤ Γ.1.2.2.2.slots) (hO : zok Γ k d) (hd : decode k.2.1 pc = .ok (.invokevirtual idx, 3)) (kk : zY Γ ω (pc + 3) lv (rest) μ1) : zY Γ ω pc lv (v2 :: v1 :: zP q :: rest) μ :=
  zY.callV2 hc hdd hk hlk hq hs hcl hrs hll hcs hO hd (fun r μ' ⟨h1, h3⟩ => by subst h1; subst h3; exact kk)
theorem zY.callV3i {Γ : zCx} {ω : zOm} {k kc : zMth} {d dc pc idx : Nat} {lv : List (Option Value)} {rest : List Value} {μ : zMem} {v1 v2 v3 : Value} {q ci : Nat} {fl : List (Nat × Nat)} {T : u_T} {N : Nat} {post : Int → zMem → Prop} (hc : Ci kc dc ω.1 ω.2.1 [zP q, v1, v2, v3] μ post) (hdd : dc + 1 ≤ d) (hk : zCalV kc 3) (hlk : Cond.methodLink k.1.cls idx kc.1 ∈ zT) (hq : q < ω.1) (hs : ω.2.1 q = (0, ci, fl)) (hcl : vwCl[ci]? = some (kc.1.cls, T, N)) (hrs : (rest.map fun v => v.category).sum ≤ 8) (hll : lv.length = k.2.2.1) (hcs : ω.2.2.2.1 ≤ Γ.1.2.2.2.cells ∧ ω.2.2.2.2 ≤ Γ.1.2.2.2.slots) (hO : zok Γ k d) (hd : decode k.2.1 pc = .ok (.invokevirtual idx, 3)) (kk : ∀ a μ', post a μ' → zY Γ ω (pc + 3) lv (zI a :: rest) μ') : zY Γ ω pc lv (v3 :: v2 :: v1 :: zP q :: rest) μ :=
  zY.callV3 hc hdd hk hlk hq hs hcl hrs hll hcs hO hd (fun r μ' ⟨a, h1, h2⟩ => by subst h1; exact kk a μ' h2)
theorem zY.callV3iD {Γ : zCx} {ω : zOm} {k kc : zMth} {d dc pc idx : Nat} {lv : List (Option Value)} {rest : List Value} {μ : zMem} {v1 v2 v3 : Value} {q ci : Nat} {fl : List (Nat × Nat)} {T : u_T} {N : Nat} {μ1 : zMem} {e : Int} (hc : Ci kc dc ω.1 ω.2.1 [zP q, v1, v2, v3] μ (fun a μ' => a = e ∧ μ' = μ1)) (hdd : dc + 1 ≤ d) (hk : zCalV kc 3) (hlk : Cond.methodLink k.1.cls idx kc.1 ∈ zT) (hq : q < ω.1) (hs : ω.2.1 q = (0, ci, fl)) (hcl : vwCl[ci]? = some (kc.1.cls, T, N)) (hrs : (rest.map fun v => v.category).sum ≤ 8) (hll : lv.length = k.2.2.1) (hcs : ω.2.2.2.1 ≤ Γ.1.2.2.2.cells ∧ ω.2.2.2.2 ≤ Γ.1.2.2.2.slots) (hO : zok Γ k d) (hd : decode k.2.1 pc = .ok (.invokevirtual idx, 3)) (kk : zY Γ ω (pc + 3) lv (zI e :: rest) μ1) : zY Γ ω pc lv (v3 :: v2 :: v1 :: zP q :: rest) μ :=
  zY.callV3 hc hdd hk hlk hq hs hcl hrs hll hcs hO hd (fun r μ' ⟨a, h1, h2, h3⟩ => by subst h1; subst h2; subst h3; exact kk)
theorem zY.callV3v {Γ : zCx} {ω : zOm} {k kc : zMth} {d dc pc idx : Nat} {lv : List (Option Value)} {rest : List Value} {μ : zMem} {v1 v2 v3 : Value} {q ci : Nat} {fl : List (Nat × Nat)} {T : u_T} {N : Nat} {post : zMem → Prop} (hc : Cv kc dc ω.1 ω.2.1 [zP q, v1, v2, v3] μ post) (hdd : dc + 1 ≤ d) (hk : zCalV kc 3) (hlk : Cond.methodLink k.1.cls idx kc.1 ∈ zT) (hq : q < ω.1) (hs : ω.2.1 q = (0, ci, fl)) (hcl : vwCl[ci]? = some (kc.1.cls, T, N)) (hrs : (rest.map fun v => v.category).sum ≤ 8) (hll : lv.length = k.2.2.1) (hcs : ω.2.2.2.1 ≤ Γ.1.2.2.2.cells ∧ ω.2.2.2.2 ≤ Γ.1.2.2.2.slots) (hO : zok Γ k d) (hd : decode k.2.1 pc = .ok (.invokevirtual idx, 3)) (kk : ∀ μ', post μ' → zY Γ ω (pc + 3) lv rest μ') : zY Γ ω pc lv (v3 :: v2 :: v1 :: zP q :: rest) μ :=
  zY.callV3 hc hdd hk hlk hq hs hcl hrs hll hcs hO hd (fun r μ' ⟨h1, h2⟩ => by subst h1; exact kk μ' h2)
theorem zY.callV3vD {Γ : zCx} {ω : zOm} {k kc : zMth} {d dc pc idx : Nat} {lv : List (Option Value)} {rest : List Value} {μ : zMem} {v1 v2 v3 : Value} {q ci : Nat} {fl : List (Nat × Nat)} {T : u_T} {N : Nat} {μ1 : zMem} (hc : Cv kc dc ω.1 ω.2.1 [zP q, v1, v2, v3] μ (fun μ' => μ' = μ1)) (hdd : dc + 1 ≤ d) (hk : zCalV kc 3) (hlk : Cond.methodLink k.1.cls idx kc.1 ∈ zT) (hq : q < ω.1) (hs : ω.2.1 q = (0, ci, fl)) (hcl : vwCl[ci]? = some (kc.1.cls, T, N)) (hrs : (rest.map fun v => v.category).sum ≤ 8) (hll : lv.length = k.2.2.1) (hcs : ω.2.2.2.1 ≤ Γ.1.2.2.2.cells ∧ ω.2.2.2.2 ≤ Γ.1.2.2.2.slots) (hO : zok Γ k d) (hd : decode k.2.1 pc = .ok (.invokevirtual idx, 3)) (kk : zY Γ ω (pc + 3) lv (rest) μ1) : zY Γ ω pc lv (v3 :: v2 :: v1 :: zP q :: rest) μ :=
  zY.callV3 hc hdd hk hlk hq hs hcl hrs hll hcs hO hd (fun r μ' ⟨h1, h3⟩ => by subst h1; subst h3; exact kk)
theorem zY.callV4i {Γ : zCx} {ω : zOm} {k kc : zMth} {d dc pc idx : Nat} {lv : List (Option Value)} {rest : List Value} {μ : zMem} {v1 v2 v3 v4 : Value} {q ci : Nat} {fl : List (Nat × Nat)} {T : u_T} {N : Nat} {post : Int → zMem → Prop} (hc : Ci kc dc ω.1 ω.2.1 [zP q, v1, v2, v3, v4] μ post) (hdd : dc + 1 ≤ d) (hk : zCalV kc 4) (hlk : Cond.methodLink k.1.cls idx kc.1 ∈ zT) (hq : q < ω.1) (hs : ω.2.1 q = (0, ci, fl)) (hcl : vwCl[ci]? = some (kc.1.cls, T, N)) (hrs : (rest.map fun v => v.category).sum ≤ 8) (hll : lv.length = k.2.2.1) (hcs : ω.2.2.2.1 ≤ Γ.1.2.2.2.cells ∧ ω.2.2.2.2 ≤ Γ.1.2.2.2.slots) (hO : zok Γ k d) (hd : decode k.2.1 pc = .ok (.invokevirtual idx, 3)) (kk : ∀ a μ', post a μ' → zY Γ ω (pc + 3) lv (zI a :: rest) μ') : zY Γ ω pc lv (v4 :: v3 :: v2 :: v1 :: zP q :: rest) μ :=
  zY.callV4 hc hdd hk hlk hq hs hcl hrs hll hcs hO hd (fun r μ' ⟨a, h1, h2⟩ => by subst h1; exact kk a μ' h2)
theorem zY.callV4iD {Γ : zCx} {ω : zOm} {k kc : zMth} {d dc pc idx : Nat} {lv : List (Option Value)} {rest : List Value} {μ : zMem} {v1 v2 v3 v4 : Value} {q ci : Nat} {fl : List (Nat × Nat)} {T : u_T} {N : Nat} {μ1 : zMem} {e : Int} (hc : Ci kc dc ω.1 ω.2.1 [zP q, v1, v2, v3, v4] μ (fun a μ' => a = e ∧ μ' = μ1)) (hdd : dc + 1 ≤ d) (hk : zCalV kc 4) (hlk : Cond.methodLink k.1.cls idx kc.1 ∈ zT) (hq : q < ω.1) (hs : ω.2.1 q = (0, ci, fl)) (hcl : vwCl[ci]? = some (kc.1.cls, T, N)) (hrs : (rest.map fun v => v.category).sum ≤ 8) (hll : lv.length = k.2.2.1) (hcs : ω.2.2.2.1 ≤ Γ.1.2.2.2.cells ∧ ω.2.2.2.2 ≤ Γ.1.2.2.2.slots) (hO : zok Γ k d) (hd : decode k.2.1 pc = .ok (.invokevirtual idx, 3)) (kk : zY Γ ω (pc + 3) lv (zI e :: rest) μ1) : zY Γ ω pc lv (v4 :: v3 :: v2 :: v1 :: zP q :: rest) μ :=
  zY.callV4 hc hdd hk hlk hq hs hcl hrs hll hcs hO hd (fun r μ' ⟨a, h1, h2, h3⟩ => by subst h1; subst h2; subst h3; exact kk)
theorem zY.callV4v {Γ : zCx} {ω : zOm} {k kc : zMth} {d dc pc idx : Nat} {lv : List (Option Value)} {rest : List Value} {μ : zMem} {v1 v2 v3 v4 : Value} {q ci : Nat} {fl : List (Nat × Nat)} {T : u_T} {N : Nat} {post : zMem → Prop} (hc : Cv kc dc ω.1 ω.2.1 [zP q, v1, v2, v3, v4] μ post) (hdd : dc + 1 ≤ d) (hk : zCalV kc 4) (hlk : Cond.methodLink k.1.cls idx kc.1 ∈ zT) (hq : q < ω.1) (hs : ω.2.1 q = (0, ci, fl)) (hcl : vwCl[ci]? = some (kc.1.cls, T, N)) (hrs : (rest.map fun v => v.category).sum ≤ 8) (hll : lv.length = k.2.2.1) (hcs : ω.2.2.2.1 ≤ Γ.1.2.2.2.cells ∧ ω.2.2.2.2 ≤ Γ.1.2.2.2.slots) (hO : zok Γ k d) (hd : decode k.2.1 pc = .ok (.invokevirtual idx, 3)) (kk : ∀ μ', post μ' → zY Γ ω (pc + 3) lv rest μ') : zY Γ ω pc lv (v4 :: v3 :: v2 :: v1 :: zP q :: rest) μ :=
  zY.callV4 hc hdd hk hlk hq hs hcl hrs hll hcs hO hd (fun r μ' ⟨h1, h2⟩ => by subst h1; exact kk μ' h2)
theorem zY.callV4vD {Γ : zCx} {ω : zOm} {k kc : zMth} {d dc pc idx : Nat} {lv : List (Option Value)} {rest : List Value} {μ : zMem} {v1 v2 v3 v4 : Value} {q ci : Nat} {fl : List (Nat × Nat)} {T : u_T} {N : Nat} {μ1 : zMem} (hc : Cv kc dc ω.1 ω.2.1 [zP q, v1, v2, v3, v4] μ (fun μ' => μ' = μ1)) (hdd : dc + 1 ≤ d) (hk : zCalV kc 4) (hlk : Cond.methodLink k.1.cls idx kc.1 ∈ zT) (hq : q < ω.1) (hs : ω.2.1 q = (0, ci, fl)) (hcl : vwCl[ci]? = some (kc.1.cls, T, N)) (hrs : (rest.map fun v => v.category).sum ≤ 8) (hll : lv.length = k.2.2.1) (hcs : ω.2.2.2.1 ≤ Γ.1.2.2.2.cells ∧ ω.2.2.2.2 ≤ Γ.1.2.2.2.slots) (hO : zok Γ k d) (hd : decode k.2.1 pc = .ok (.invokevirtual idx, 3)) (kk : zY Γ ω (pc + 3) lv (rest) μ1) : zY Γ ω pc lv (v4 :: v3 :: v2 :: v1 :: zP q :: rest) μ :=
  zY.callV4 hc hdd hk hlk hq hs hcl hrs hll hcs hO hd (fun r μ' ⟨h1, h3⟩ => by subst h1; subst h3; exact kk)
theorem zY.callS1i {Γ : zCx} {ω : zOm} {k kc : zMth} {d dc pc idx : Nat} {lv : List (Option Value)} {rest : List Value} {μ : zMem} {v1 : Value} {post : Int → zMem → Prop} (hc : Ci kc dc ω.1 ω.2.1 [v1] μ post) (hdd : dc + 1 ≤ d) (hk : zCalS kc 1) (hlk : Cond.methodLink k.1.cls idx kc.1 ∈ zT) (hrs : (rest.map fun v => v.category).sum ≤ 8) (hll : lv.length = k.2.2.1) (hcs : ω.2.2.2.1 ≤ Γ.1.2.2.2.cells ∧ ω.2.2.2.2 ≤ Γ.1.2.2.2.slots) (hO : zok Γ k d) (hd : decode k.2.1 pc = .ok (.invokestatic idx, 3)) (kk : ∀ a μ', post a μ' → zY Γ ω (pc + 3) lv (zI a :: rest) μ') : zY Γ ω pc lv (v1 :: rest) μ :=
  zY.callS1 hc hdd hk hlk hrs hll hcs hO hd (fun r μ' ⟨a, h1, h2⟩ => by subst h1; exact kk a μ' h2)
theorem zY.callS1iD {Γ : zCx} {ω : zOm} {k kc : zMth} {d dc pc idx : Nat} {lv : List (Option Value)} {rest : List Value} {μ : zMem} {v1 : Value} {μ1 : zMem} {e : Int} (hc : Ci kc dc ω.1 ω.2.1 [v1] μ (fun a μ' => a = e ∧ μ' = μ1)) (hdd : dc + 1 ≤ d) (hk : zCalS kc 1) (hlk : Cond.methodLink k.1.cls idx kc.1 ∈ zT) (hrs : (rest.map fun v => v.category).sum ≤ 8) (hll : lv.length = k.2.2.1) (hcs : ω.2.2.2.1 ≤ Γ.1.2.2.2.cells ∧ ω.2.2.2.2 ≤ Γ.1.2.2.2.slots) (hO : zok Γ k d) (hd : decode k.2.1 pc = .ok (.invokestatic idx, 3)) (kk : zY Γ ω (pc + 3) lv (zI e :: rest) μ1) : zY Γ ω pc lv (v1 :: rest) μ :=
  zY.callS1 hc hdd hk hlk hrs hll hcs hO hd (fun r μ' ⟨a, h1, h2, h3⟩ => by subst h1; subst h2; subst h3; exact kk)
theorem zY.callS1l {Γ : zCx} {ω : zOm} {k kc : zMth} {d dc pc idx : Nat} {lv : List (Option Value)} {rest : List Value} {μ : zMem} {v1 : Value} {post : Int → zMem → Prop} (hc : Cl kc dc ω.1 ω.2.1 [v1] μ post) (hdd : dc + 1 ≤ d) (hk : zCalS kc 1) (hlk : Cond.methodLink k.1.cls idx kc.1 ∈ zT) (hrs : (rest.map fun v => v.category).sum ≤ 8) (hll : lv.length = k.2.2.1) (hcs : ω.2.2.2.1 ≤ Γ.1.2.2.2.cells ∧ ω.2.2.2.2 ≤ Γ.1.2.2.2.slots) (hO : zok Γ k d) (hd : decode k.2.1 pc = .ok (.invokestatic idx, 3)) (kk : ∀ a μ', post a μ' → zY Γ ω (pc + 3) lv (zJ a :: rest) μ') : zY Γ ω pc lv (v1 :: rest) μ :=
  zY.callS1 hc hdd hk hlk hrs hll hcs hO hd (fun r μ' ⟨a, h1, h2⟩ => by subst h1; exact kk a μ' h2)
theorem zY.callS1lD {Γ : zCx} {ω : zOm} {k kc : zMth} {d dc pc idx : Nat} {lv : List (Option Value)} {rest : List Value} {μ : zMem} {v1 : Value} {μ1 : zMem} {e : Int} (hc : Cl kc dc ω.1 ω.2.1 [v1] μ (fun a μ' => a = e ∧ μ' = μ1)) (hdd : dc + 1 ≤ d) (hk : zCalS kc 1) (hlk : Cond.methodLink k.1.cls idx kc.1 ∈ zT) (hrs : (rest.map fun v => v.category).sum ≤ 8) (hll : lv.length = k.2.2.1) (hcs : ω.2.2.2.1 ≤ Γ.1.2.2.2.cells ∧ ω.2.2.2.2 ≤ Γ.1.2.2.2.slots) (hO : zok Γ k d) (hd : decode k.2.1 pc = .ok (.invokestatic idx, 3)) (kk : zY Γ ω (pc + 3) lv (zJ e :: rest) μ1) : zY Γ ω pc lv (v1 :: rest) μ :=
  zY.callS1 hc hdd hk hlk hrs hll hcs hO hd (fun r μ' ⟨a, h1, h2, h3⟩ => by subst h1; subst h2; subst h3; exact kk)
theorem zY.callS1v {Γ : zCx} {ω : zOm} {k kc : zMth} {d dc pc idx : Nat} {lv : List (Option Value)} {rest : List Value} {μ : zMem} {v1 : Value} {post : zMem → Prop} (hc : Cv kc dc ω.1 ω.2.1 [v1] μ post) (hdd : dc + 1 ≤ d) (hk : zCalS kc 1) (hlk : Cond.methodLink k.1.cls idx kc.1 ∈ zT) (hrs : (rest.map fun v => v.category).sum ≤ 8) (hll : lv.length = k.2.2.1) (hcs : ω.2.2.2.1 ≤ Γ.1.2.2.2.cells ∧ ω.2.2.2.2 ≤ Γ.1.2.2.2.slots) (hO : zok Γ k d) (hd : decode k.2.1 pc = .ok (.invokestatic idx, 3)) (kk : ∀ μ', post μ' → zY Γ ω (pc + 3) lv rest μ') : zY Γ ω pc lv (v1 :: rest) μ :=
  zY.callS1 hc hdd hk hlk hrs hll hcs hO hd (fun r μ' ⟨h1, h2⟩ => by subst h1; exact kk μ' h2)
theorem zY.callS1vD {Γ : zCx} {ω : zOm} {k kc : zMth} {d dc pc idx : Nat} {lv : List (Option Value)} {rest : List Value} {μ : zMem} {v1 : Value} {μ1 : zMem} (hc : Cv kc dc ω.1 ω.2.1 [v1] μ (fun μ' => μ' = μ1)) (hdd : dc + 1 ≤ d) (hk : zCalS kc 1) (hlk : Cond.methodLink k.1.cls idx kc.1 ∈ zT) (hrs : (rest.map fun v => v.category).sum ≤ 8) (hll : lv.length = k.2.2.1) (hcs : ω.2.2.2.1 ≤ Γ.1.2.2.2.cells ∧ ω.2.2.2.2 ≤ Γ.1.2.2.2.slots) (hO : zok Γ k d) (hd : decode k.2.1 pc = .ok (.invokestatic idx, 3)) (kk : zY Γ ω (pc + 3) lv (rest) μ1) : zY Γ ω pc lv (v1 :: rest) μ :=
  zY.callS1 hc hdd hk hlk hrs hll hcs hO hd (fun r μ' ⟨h1, h3⟩ => by subst h1; subst h3; exact kk)
theorem zY.callS2i {Γ : zCx} {ω : zOm} {k kc : zMth} {d dc pc idx : Nat} {lv : List (Option Value)} {rest : List Value} {μ : zMem} {v1 v2 : Value} {post : Int → zMem → Prop} (hc : Ci kc dc ω.1 ω.2.1 [v1, v2] μ post) (hdd : dc + 1 ≤ d) (hk : zCalS kc 2) (hlk : Cond.methodLink k.1.cls idx kc.1 ∈ zT) (hrs : (rest.map fun v => v.category).sum ≤ 8) (hll : lv.length = k.2.2.1) (hcs : ω.2.2.2.1 ≤ Γ.1.2.2.2.cells ∧ ω.2.2.2.2 ≤ Γ.1.2.2.2.slots) (hO : zok Γ k d) (hd : decode k.2.1 pc = .ok (.invokestatic idx, 3)) (kk : ∀ a μ', post a μ' → zY Γ ω (pc + 3) lv (zI a :: rest) μ') : zY Γ ω pc lv (v2 :: v1 :: rest) μ :=
  zY.callS2 hc hdd hk hlk hrs hll hcs hO hd (fun r μ' ⟨a, h1, h2⟩ => by subst h1; exact kk a μ' h2)
theorem zY.callS2iD {Γ : zCx} {ω : zOm} {k kc : zMth} {d dc pc idx : Nat} {lv : List (Option Value)} {rest : List Value} {μ : zMem} {v1 v2 : Value} {μ1 : zMem} {e : Int} (hc : Ci kc dc ω.1 ω.2.1 [v1, v2] μ (fun a μ' => a = e ∧ μ' = μ1)) (hdd : dc + 1 ≤ d) (hk : zCalS kc 2) (hlk : Cond.methodLink k.1.cls idx kc.1 ∈ zT) (hrs : (rest.map fun v => v.category).sum ≤ 8) (hll : lv.length = k.2.2.1) (hcs : ω.2.2.2.1 ≤ Γ.1.2.2.2.cells ∧ ω.2.2.2.2 ≤ Γ.1.2.2.2.slots) (hO : zok Γ k d) (hd : decode k.2.1 pc = .ok (.invokestatic idx, 3)) (kk : zY Γ ω (pc + 3) lv (zI e :: rest) μ1) : zY Γ ω pc lv (v2 :: v1 :: rest) μ :=
  zY.callS2 hc hdd hk hlk hrs hll hcs hO hd (fun r μ' ⟨a, h1, h2, h3⟩ => by subst h1; subst h2; subst h3; exact kk)
theorem zY.callS2v {Γ : zCx} {ω : zOm} {k kc : zMth} {d dc pc idx : Nat} {lv : List (Option Value)} {rest : List Value} {μ : zMem} {v1 v2 : Value} {post : zMem → Prop} (hc : Cv kc dc ω.1 ω.2.1 [v1, v2] μ post) (hdd : dc + 1 ≤ d) (hk : zCalS kc 2) (hlk : Cond.methodLink k.1.cls idx kc.1 ∈ zT) (hrs : (rest.map fun v => v.category).sum ≤ 8) (hll : lv.length = k.2.2.1) (hcs : ω.2.2.2.1 ≤ Γ.1.2.2.2.cells ∧ ω.2.2.2.2 ≤ Γ.1.2.2.2.slots) (hO : zok Γ k d) (hd : decode k.2.1 pc = .ok (.invokestatic idx, 3)) (kk : ∀ μ', post μ' → zY Γ ω (pc + 3) lv rest μ') : zY Γ ω pc lv (v2 :: v1 :: rest) μ :=
  zY.callS2 hc hdd hk hlk hrs hll hcs hO hd (fun r μ' ⟨h1, h2⟩ => by subst h1; exact kk μ' h2)
theorem zY.callS2vD {Γ : zCx} {ω : zOm} {k kc : zMth} {d dc pc idx : Nat} {lv : List (Option Value)} {rest : List Value} {μ : zMem} {v1 v2 : Value} {μ1 : zMem} (hc : Cv kc dc ω.1 ω.2.1 [v1, v2] μ (fun μ' => μ' = μ1)) (hdd : dc + 1 ≤ d) (hk : zCalS kc 2) (hlk : Cond.methodLink k.1.cls idx kc.1 ∈ zT) (hrs : (rest.map fun v => v.category).sum ≤ 8) (hll : lv.length = k.2.2.1) (hcs : ω.2.2.2.1 ≤ Γ.1.2.2.2.cells ∧ ω.2.2.2.2 ≤ Γ.1.2.2.2.slots) (hO : zok Γ k d) (hd : decode k.2.1 pc = .ok (.invokestatic idx, 3)) (kk : zY Γ ω (pc + 3) lv (rest) μ1) : zY Γ ω pc lv (v2 :: v1 :: rest) μ :=
  zY.callS2 hc hdd hk hlk hrs hll hcs hO hd (fun r μ' ⟨h1, h3⟩ => by subst h1; subst h3; exact kk)
theorem zY.callS3i {Γ : zCx} {ω : zOm} {k kc : zMth} {d dc pc idx : Nat} {lv : List (Option Value)} {rest : List Value} {μ : zMem} {v1 v2 v3 : Value} {post : Int → zMem → Prop} (hc : Ci kc dc ω.1 ω.2.1 [v1, v2, v3] μ post) (hdd : dc + 1 ≤ d) (hk : zCalS kc 3) (hlk : Cond.methodLink k.1.cls idx kc.1 ∈ zT) (hrs : (rest.map fun v => v.category).sum ≤ 8) (hll : lv.length = k.2.2.1) (hcs : ω.2.2.2.1 ≤ Γ.1.2.2.2.cells ∧ ω.2.2.2.2 ≤ Γ.1.2.2.2.slots) (hO : zok Γ k d) (hd : decode k.2.1 pc = .ok (.invokestatic idx, 3)) (kk : ∀ a μ', post a μ' → zY Γ ω (pc + 3) lv (zI a :: rest) μ') : zY Γ ω pc lv (v3 :: v2 :: v1 :: rest) μ :=
  zY.callS3 hc hdd hk hlk hrs hll hcs hO hd (fun r μ' ⟨a, h1, h2⟩ => by subst h1; exact kk a μ' h2)
theorem zY.callS3iD {Γ : zCx} {ω : zOm} {k kc : zMth} {d dc pc idx : Nat} {lv : List (Option Value)} {rest : List Value} {μ : zMem} {v1 v2 v3 : Value} {μ1 : zMem} {e : Int} (hc : Ci kc dc ω.1 ω.2.1 [v1, v2, v3] μ (fun a μ' => a = e ∧ μ' = μ1)) (hdd : dc + 1 ≤ d) (hk : zCalS kc 3) (hlk : Cond.methodLink k.1.cls idx kc.1 ∈ zT) (hrs : (rest.map fun v => v.category).sum ≤ 8) (hll : lv.length = k.2.2.1) (hcs : ω.2.2.2.1 ≤ Γ.1.2.2.2.cells ∧ ω.2.2.2.2 ≤ Γ.1.2.2.2.slots) (hO : zok Γ k d) (hd : decode k.2.1 pc = .ok (.invokestatic idx, 3)) (kk : zY Γ ω (pc + 3) lv (zI e :: rest) μ1) : zY Γ ω pc lv (v3 :: v2 :: v1 :: rest) μ :=
  zY.callS3 hc hdd hk hlk hrs hll hcs hO hd (fun r μ' ⟨a, h1, h2, h3⟩ => by subst h1; subst h2; subst h3; exact kk)
theorem zY.callS3v {Γ : zCx} {ω : zOm} {k kc : zMth} {d dc pc idx : Nat} {lv : List (Option Value)} {rest : List Value} {μ : zMem} {v1 v2 v3 : Value} {post : zMem → Prop} (hc : Cv kc dc ω.1 ω.2.1 [v1, v2, v3] μ post) (hdd : dc + 1 ≤ d) (hk : zCalS kc 3) (hlk : Cond.methodLink k.1.cls idx kc.1 ∈ zT) (hrs : (rest.map fun v => v.category).sum ≤ 8) (hll : lv.length = k.2.2.1) (hcs : ω.2.2.2.1 ≤ Γ.1.2.2.2.cells ∧ ω.2.2.2.2 ≤ Γ.1.2.2.2.slots) (hO : zok Γ k d) (hd : decode k.2.1 pc = .ok (.invokestatic idx, 3)) (kk : ∀ μ', post μ' → zY Γ ω (pc + 3) lv rest μ') : zY Γ ω pc lv (v3 :: v2 :: v1 :: rest) μ :=
  zY.callS3 hc hdd hk hlk hrs hll hcs hO hd (fun r μ' ⟨h1, h2⟩ => by subst h1; exact kk μ' h2)
theorem zY.callS3vD {Γ : zCx} {ω : zOm} {k kc : zMth} {d dc pc idx : Nat} {lv : List (Option Value)} {rest : List Value} {μ : zMem} {v1 v2 v3 : Value} {μ1 : zMem} (hc : Cv kc dc ω.1 ω.2.1 [v1, v2, v3] μ (fun μ' => μ' = μ1)) (hdd : dc + 1 ≤ d) (hk : zCalS kc 3) (hlk : Cond.methodLink k.1.cls idx kc.1 ∈ zT) (hrs : (rest.map fun v => v.category).sum ≤ 8) (hll : lv.length = k.2.2.1) (hcs : ω.2.2.2.1 ≤ Γ.1.2.2.2.cells ∧ ω.2.2.2.2 ≤ Γ.1.2.2.2.slots) (hO : zok Γ k d) (hd : decode k.2.1 pc = .ok (.invokestatic idx, 3)) (kk : zY Γ ω (pc + 3) lv (rest) μ1) : zY Γ ω pc lv (v3 :: v2 :: v1 :: rest) μ :=
  zY.callS3 hc hdd hk hlk hrs hll hcs hO hd (fun r μ' ⟨h1, h3⟩ => by subst h1; subst h3; exact kk)
theorem zY.callSN1i {Γ : zCx} {ω : zOm} {k kc : zMth} {d dc pc idx : Nat} {lv : List (Option Value)} {rest : List Value} {μ : zMem} {v1 : Value} {host : String} {post : Int → zMem → Prop} (hc : Ci kc dc ω.1 ω.2.1 [v1] μ post) (hdd : dc + 1 ≤ d) (hk : zCalS kc 1) (hlk : (k.1.cls, idx, kc.1, host) ∈ zNest) (hrs : (rest.map fun v => v.category).sum ≤ 8) (hll : lv.length = k.2.2.1) (hcs : ω.2.2.2.1 ≤ Γ.1.2.2.2.cells ∧ ω.2.2.2.2 ≤ Γ.1.2.2.2.slots) (hO : zok Γ k d) (hd : decode k.2.1 pc = .ok (.invokestatic idx, 3)) (kk : ∀ a μ', post a μ' → zY Γ ω (pc + 3) lv (zI a :: rest) μ') : zY Γ ω pc lv (v1 :: rest) μ :=
  zY.callSN1 hc hdd hk hlk hrs hll hcs hO hd (fun r μ' ⟨a, h1, h2⟩ => by subst h1; exact kk a μ' h2)
theorem zY.callSN1iD {Γ : zCx} {ω : zOm} {k kc : zMth} {d dc pc idx : Nat} {lv : List (Option Value)} {rest : List Value} {μ : zMem} {v1 : Value} {host : String} {μ1 : zMem} {e : Int} (hc : Ci kc dc ω.1 ω.2.1 [v1] μ (fun a μ' => a = e ∧ μ' = μ1)) (hdd : dc + 1 ≤ d) (hk : zCalS kc 1) (hlk : (k.1.cls, idx, kc.1, host) ∈ zNest) (hrs : (rest.map fun v => v.category).sum ≤ 8) (hll : lv.length = k.2.2.1) (hcs : ω.2.2.2.1 ≤ Γ.1.2.2.2.cells ∧ ω.2.2.2.2 ≤ Γ.1.2.2.2.slots) (hO : zok Γ k d) (hd : decode k.2.1 pc = .ok (.invokestatic idx, 3)) (kk : zY Γ ω (pc + 3) lv (zI e :: rest) μ1) : zY Γ ω pc lv (v1 :: rest) μ :=
  zY.callSN1 hc hdd hk hlk hrs hll hcs hO hd (fun r μ' ⟨a, h1, h2, h3⟩ => by subst h1; subst h2; subst h3; exact kk)
theorem zY.callSN1l {Γ : zCx} {ω : zOm} {k kc : zMth} {d dc pc idx : Nat} {lv : List (Option Value)} {rest : List Value} {μ : zMem} {v1 : Value} {host : String} {post : Int → zMem → Prop} (hc : Cl kc dc ω.1 ω.2.1 [v1] μ post) (hdd : dc + 1 ≤ d) (hk : zCalS kc 1) (hlk : (k.1.cls, idx, kc.1, host) ∈ zNest) (hrs : (rest.map fun v => v.category).sum ≤ 8) (hll : lv.length = k.2.2.1) (hcs : ω.2.2.2.1 ≤ Γ.1.2.2.2.cells ∧ ω.2.2.2.2 ≤ Γ.1.2.2.2.slots) (hO : zok Γ k d) (hd : decode k.2.1 pc = .ok (.invokestatic idx, 3)) (kk : ∀ a μ', post a μ' → zY Γ ω (pc + 3) lv (zJ a :: rest) μ') : zY Γ ω pc lv (v1 :: rest) μ :=
  zY.callSN1 hc hdd hk hlk hrs hll hcs hO hd (fun r μ' ⟨a, h1, h2⟩ => by subst h1; exact kk a μ' h2)
theorem zY.callSN1lD {Γ : zCx} {ω : zOm} {k kc : zMth} {d dc pc idx : Nat} {lv : List (Option Value)} {rest : List Value} {μ : zMem} {v1 : Value} {host : String} {μ1 : zMem} {e : Int} (hc : Cl kc dc ω.1 ω.2.1 [v1] μ (fun a μ' => a = e ∧ μ' = μ1)) (hdd : dc + 1 ≤ d) (hk : zCalS kc 1) (hlk : (k.1.cls, idx, kc.1, host) ∈ zNest) (hrs : (rest.map fun v => v.category).sum ≤ 8) (hll : lv.length = k.2.2.1) (hcs : ω.2.2.2.1 ≤ Γ.1.2.2.2.cells ∧ ω.2.2.2.2 ≤ Γ.1.2.2.2.slots) (hO : zok Γ k d) (hd : decode k.2.1 pc = .ok (.invokestatic idx, 3)) (kk : zY Γ ω (pc + 3) lv (zJ e :: rest) μ1) : zY Γ ω pc lv (v1 :: rest) μ :=
  zY.callSN1 hc hdd hk hlk hrs hll hcs hO hd (fun r μ' ⟨a, h1, h2, h3⟩ => by subst h1; subst h2; subst h3; exact kk)
theorem zY.callSN1v {Γ : zCx} {ω : zOm} {k kc : zMth} {d dc pc idx : Nat} {lv : List (Option Value)} {rest : List Value} {μ : zMem} {v1 : Value} {host : String} {post : zMem → Prop} (hc : Cv kc dc ω.1 ω.2.1 [v1] μ post) (hdd : dc + 1 ≤ d) (hk : zCalS kc 1) (hlk : (k.1.cls, idx, kc.1, host) ∈ zNest) (hrs : (rest.map fun v => v.category).sum ≤ 8) (hll : lv.length = k.2.2.1) (hcs : ω.2.2.2.1 ≤ Γ.1.2.2.2.cells ∧ ω.2.2.2.2 ≤ Γ.1.2.2.2.slots) (hO : zok Γ k d) (hd : decode k.2.1 pc = .ok (.invokestatic idx, 3)) (kk : ∀ μ', post μ' → zY Γ ω (pc + 3) lv rest μ') : zY Γ ω pc lv (v1 :: rest) μ :=
  zY.callSN1 hc hdd hk hlk hrs hll hcs hO hd (fun r μ' ⟨h1, h2⟩ => by subst h1; exact kk μ' h2)
theorem zY.callSN1vD {Γ : zCx} {ω : zOm} {k kc : zMth} {d dc pc idx : Nat} {lv : List (Option Value)} {rest : List Value} {μ : zMem} {v1 : Value} {host : String} {μ1 : zMem} (hc : Cv kc dc ω.1 ω.2.1 [v1] μ (fun μ' => μ' = μ1)) (hdd : dc + 1 ≤ d) (hk : zCalS kc 1) (hlk : (k.1.cls, idx, kc.1, host) ∈ zNest) (hrs : (rest.map fun v => v.category).sum ≤ 8) (hll : lv.length = k.2.2.1) (hcs : ω.2.2.2.1 ≤ Γ.1.2.2.2.cells ∧ ω.2.2.2.2 ≤ Γ.1.2.2.2.slots) (hO : zok Γ k d) (hd : decode k.2.1 pc = .ok (.invokestatic idx, 3)) (kk : zY Γ ω (pc + 3) lv (rest) μ1) : zY Γ ω pc lv (v1 :: rest) μ :=
  zY.callSN1 hc hdd hk hlk hrs hll hcs hO hd (fun r μ' ⟨h1, h3⟩ => by subst h1; subst h3; exact kk)
theorem zY.callSN2i {Γ : zCx} {ω : zOm} {k kc : zMth} {d dc pc idx : Nat} {lv : List (Option Value)} {rest : List Value} {μ : zMem} {v1 v2 : Value} {host : String} {post : Int → zMem → Prop} (hc : Ci kc dc ω.1 ω.2.1 [v1, v2] μ post) (hdd : dc + 1 ≤ d) (hk : zCalS kc 2) (hlk : (k.1.cls, idx, kc.1, host) ∈ zNest) (hrs : (rest.map fun v => v.category).sum ≤ 8) (hll : lv.length = k.2.2.1) (hcs : ω.2.2.2.1 ≤ Γ.1.2.2.2.cells ∧ ω.2.2.2.2 ≤ Γ.1.2.2.2.slots) (hO : zok Γ k d) (hd : decode k.2.1 pc = .ok (.invokestatic idx, 3)) (kk : ∀ a μ', post a μ' → zY Γ ω (pc + 3) lv (zI a :: rest) μ') : zY Γ ω pc lv (v2 :: v1 :: rest) μ :=
  zY.callSN2 hc hdd hk hlk hrs hll hcs hO hd (fun r μ' ⟨a, h1, h2⟩ => by subst h1; exact kk a μ' h2)
theorem zY.callSN2iD {Γ : zCx} {ω : zOm} {k kc : zMth} {d dc pc idx : Nat} {lv : List (Option Value)} {rest : List Value} {μ : zMem} {v1 v2 : Value} {host : String} {μ1 : zMem} {e : Int} (hc : Ci kc dc ω.1 ω.2.1 [v1, v2] μ (fun a μ' => a = e ∧ μ' = μ1)) (hdd : dc + 1 ≤ d) (hk : zCalS kc 2) (hlk : (k.1.cls, idx, kc.1, host) ∈ zNest) (hrs : (rest.map fun v => v.category).sum ≤ 8) (hll : lv.length = k.2.2.1) (hcs : ω.2.2.2.1 ≤ Γ.1.2.2.2.cells ∧ ω.2.2.2.2 ≤ Γ.1.2.2.2.slots) (hO : zok Γ k d) (hd : decode k.2.1 pc = .ok (.invokestatic idx, 3)) (kk : zY Γ ω (pc + 3) lv (zI e :: rest) μ1) : zY Γ ω pc lv (v2 :: v1 :: rest) μ :=
  zY.callSN2 hc hdd hk hlk hrs hll hcs hO hd (fun r μ' ⟨a, h1, h2, h3⟩ => by subst h1; subst h2; subst h3; exact kk)
theorem zY.callSN2v {Γ : zCx} {ω : zOm} {k kc : zMth} {d dc pc idx : Nat} {lv : List (Option Value)} {rest : List Value} {μ : zMem} {v1 v2 : Value} {host : String} {post : zMem → Prop} (hc : Cv kc dc ω.1 ω.2.1 [v1, v2] μ post) (hdd : dc + 1 ≤ d) (hk : zCalS kc 2) (hlk : (k.1.cls, idx, kc.1, host) ∈ zNest) (hrs : (rest.map fun v => v.category).sum ≤ 8) (hll : lv.length = k.2.2.1) (hcs : ω.2.2.2.1 ≤ Γ.1.2.2.2.cells ∧ ω.2.2.2.2 ≤ Γ.1.2.2.2.slots) (hO : zok Γ k d) (hd : decode k.2.1 pc = .ok (.invokestatic idx, 3)) (kk : ∀ μ', post μ' → zY Γ ω (pc + 3) lv rest μ') : zY Γ ω pc lv (v2 :: v1 :: rest) μ :=
  zY.callSN2 hc hdd hk hlk hrs hll hcs hO hd (fun r μ' ⟨h1, h2⟩ => by subst h1; exact kk μ' h2)
theorem zY.callSN2vD {Γ : zCx} {ω : zOm} {k kc : zMth} {d dc pc idx : Nat} {lv : List (Option Value)} {rest : List Value} {μ : zMem} {v1 v2 : Value} {host : String} {μ1 : zMem} (hc : Cv kc dc ω.1 ω.2.1 [v1, v2] μ (fun μ' => μ' = μ1)) (hdd : dc + 1 ≤ d) (hk : zCalS kc 2) (hlk : (k.1.cls, idx, kc.1, host) ∈ zNest) (hrs : (rest.map fun v => v.category).sum ≤ 8) (hll : lv.length = k.2.2.1) (hcs : ω.2.2.2.1 ≤ Γ.1.2.2.2.cells ∧ ω.2.2.2.2 ≤ Γ.1.2.2.2.slots) (hO : zok Γ k d) (hd : decode k.2.1 pc = .ok (.invokestatic idx, 3)) (kk : zY Γ ω (pc + 3) lv (rest) μ1) : zY Γ ω pc lv (v2 :: v1 :: rest) μ :=
  zY.callSN2 hc hdd hk hlk hrs hll hcs hO hd (fun r μ' ⟨h1, h3⟩ => by subst h1; subst h3; exact kk)
theorem zY.callSN3i {Γ : zCx} {ω : zOm} {k kc : zMth} {d dc pc idx : Nat} {lv : List (Option Value)} {rest : List Value} {μ : zMem} {v1 v2 v3 : Value} {host : String} {post : Int → zMem → Prop} (hc : Ci kc dc ω.1 ω.2.1 [v1, v2, v3] μ post) (hdd : dc + 1 ≤ d) (hk : zCalS kc 3) (hlk : (k.1.cls, idx, kc.1, host) ∈ zNest) (hrs : (rest.map fun v => v.category).sum ≤ 8) (hll : lv.length = k.2.2.1) (hcs : ω.2.2.2.1 ≤ Γ.1.2.2.2.cells ∧ ω.2.2.2.2 ≤ Γ.1.2.2.2.slots) (hO : zok Γ k d) (hd : decode k.2.1 pc = .ok (.invokestatic idx, 3)) (kk : ∀ a μ', post a μ' → zY Γ ω (pc + 3) lv (zI a :: rest) μ') : zY Γ ω pc lv (v3 :: v2 :: v1 :: rest) μ :=
  zY.callSN3 hc hdd hk hlk hrs hll hcs hO hd (fun r μ' ⟨a, h1, h2⟩ => by subst h1; exact kk a μ' h2)
theorem zY.callSN3iD {Γ : zCx} {ω : zOm} {k kc : zMth} {d dc pc idx : Nat} {lv : List (Option Value)} {rest : List Value} {μ : zMem} {v1 v2 v3 : Value} {host : String} {μ1 : zMem} {e : Int} (hc : Ci kc dc ω.1 ω.2.1 [v1, v2, v3] μ (fun a μ' => a = e ∧ μ' = μ1)) (hdd : dc + 1 ≤ d) (hk : zCalS kc 3) (hlk : (k.1.cls, idx, kc.1, host) ∈ zNest) (hrs : (rest.map fun v => v.category).sum ≤ 8) (hll : lv.length = k.2.2.1) (hcs : ω.2.2.2.1 ≤ Γ.1.2.2.2.cells ∧ ω.2.2.2.2 ≤ Γ.1.2.2.2.slots) (hO : zok Γ k d) (hd : decode k.2.1 pc = .ok (.invokestatic idx, 3)) (kk : zY Γ ω (pc + 3) lv (zI e :: rest) μ1) : zY Γ ω pc lv (v3 :: v2 :: v1 :: rest) μ :=
  zY.callSN3 hc hdd hk hlk hrs hll hcs hO hd (fun r μ' ⟨a, h1, h2, h3⟩ => by subst h1; subst h2; subst h3; exact kk)
theorem zY.callSN3v {Γ : zCx} {ω : zOm} {k kc : zMth} {d dc pc idx : Nat} {lv : List (Option Value)} {rest : List Value} {μ : zMem} {v1 v2 v3 : Value} {host : String} {post : zMem → Prop} (hc : Cv kc dc ω.1 ω.2.1 [v1, v2, v3] μ post) (hdd : dc + 1 ≤ d) (hk : zCalS kc 3) (hlk : (k.1.cls, idx, kc.1, host) ∈ zNest) (hrs : (rest.map fun v => v.category).sum ≤ 8) (hll : lv.length = k.2.2.1) (hcs : ω.2.2.2.1 ≤ Γ.1.2.2.2.cells ∧ ω.2.2.2.2 ≤ Γ.1.2.2.2.slots) (hO : zok Γ k d) (hd : decode k.2.1 pc = .ok (.invokestatic idx, 3)) (kk : ∀ μ', post μ' → zY Γ ω (pc + 3) lv rest μ') : zY Γ ω pc lv (v3 :: v2 :: v1 :: rest) μ :=
  zY.callSN3 hc hdd hk hlk hrs hll hcs hO hd (fun r μ' ⟨h1, h2⟩ => by subst h1; exact kk μ' h2)
theorem zY.callSN3vD {Γ : zCx} {ω : zOm} {k kc : zMth} {d dc pc idx : Nat} {lv : List (Option Value)} {rest : List Value} {μ : zMem} {v1 v2 v3 : Value} {host : String} {μ1 : zMem} (hc : Cv kc dc ω.1 ω.2.1 [v1, v2, v3] μ (fun μ' => μ' = μ1)) (hdd : dc + 1 ≤ d) (hk : zCalS kc 3) (hlk : (k.1.cls, idx, kc.1, host) ∈ zNest) (hrs : (rest.map fun v => v.category).sum ≤ 8) (hll : lv.length = k.2.2.1) (hcs : ω.2.2.2.1 ≤ Γ.1.2.2.2.cells ∧ ω.2.2.2.2 ≤ Γ.1.2.2.2.slots) (hO : zok Γ k d) (hd : decode k.2.1 pc = .ok (.invokestatic idx, 3)) (kk : zY Γ ω (pc + 3) lv (rest) μ1) : zY Γ ω pc lv (v3 :: v2 :: v1 :: rest) μ :=
  zY.callSN3 hc hdd hk hlk hrs hll hcs hO hd (fun r μ' ⟨h1, h3⟩ => by subst h1; subst h3; exact kk)
theorem zY.none0 {Γ : zCx} {ω : zOm} {pc : Nat} {lv : List (Option Value)} {st : List Value} {μ : zMem} {o0 : Option Value} (kk : zY Γ ω pc (none :: lv) st μ) : zY Γ ω pc (o0 :: lv) st μ :=
  zY.lds (by simp) (fun k v hk => by
    match k, hk with
    | 0, hk => cases hk
    | k + 1, hk => exact hk) kk
theorem zY.none1 {Γ : zCx} {ω : zOm} {pc : Nat} {lv : List (Option Value)} {st : List Value} {μ : zMem} {o0 o1 : Option Value} (kk : zY Γ ω pc (o0 :: none :: lv) st μ) : zY Γ ω pc (o0 :: o1 :: lv) st μ :=
  zY.lds (by simp) (fun k v hk => by
    match k, hk with
    | 0, hk => exact hk
    | 1, hk => cases hk
    | k + 2, hk => exact hk) kk
theorem zY.none2 {Γ : zCx} {ω : zOm} {pc : Nat} {lv : List (Option Value)} {st : List Value} {μ : zMem} {o0 o1 o2 : Option Value} (kk : zY Γ ω pc (o0 :: o1 :: none :: lv) st μ) : zY Γ ω pc (o0 :: o1 :: o2 :: lv) st μ :=
  zY.lds (by simp) (fun k v hk => by
    match k, hk with
    | 0, hk => exact hk
    | 1, hk => exact hk
    | 2, hk => cases hk
    | k + 3, hk => exact hk) kk
theorem zY.none3 {Γ : zCx} {ω : zOm} {pc : Nat} {lv : List (Option Value)} {st : List Value} {μ : zMem} {o0 o1 o2 o3 : Option Value} (kk : zY Γ ω pc (o0 :: o1 :: o2 :: none :: lv) st μ) : zY Γ ω pc (o0 :: o1 :: o2 :: o3 :: lv) st μ :=
  zY.lds (by simp) (fun k v hk => by
    match k, hk with
    | 0, hk => exact hk
    | 1, hk => exact hk
    | 2, hk => exact hk
    | 3, hk => cases hk
    | k + 4, hk => exact hk) kk
theorem zY.none4 {Γ : zCx} {ω : zOm} {pc : Nat} {lv : List (Option Value)} {st : List Value} {μ : zMem} {o0 o1 o2 o3 o4 : Option Value} (kk : zY Γ ω pc (o0 :: o1 :: o2 :: o3 :: none :: lv) st μ) : zY Γ ω pc (o0 :: o1 :: o2 :: o3 :: o4 :: lv) st μ :=
  zY.lds (by simp) (fun k v hk => by
    match k, hk with
    | 0, hk => exact hk
    | 1, hk => exact hk
    | 2, hk => exact hk
    | 3, hk => exact hk
    | 4, hk => cases hk
    | k + 5, hk => exact hk) kk
theorem zY.none5 {Γ : zCx} {ω : zOm} {pc : Nat} {lv : List (Option Value)} {st : List Value} {μ : zMem} {o0 o1 o2 o3 o4 o5 : Option Value} (kk : zY Γ ω pc (o0 :: o1 :: o2 :: o3 :: o4 :: none :: lv) st μ) : zY Γ ω pc (o0 :: o1 :: o2 :: o3 :: o4 :: o5 :: lv) st μ :=
  zY.lds (by simp) (fun k v hk => by
    match k, hk with
    | 0, hk => exact hk
    | 1, hk => exact hk
    | 2, hk => exact hk
    | 3, hk => exact hk
    | 4, hk => exact hk
    | 5, hk => cases hk
    | k + 6, hk => exact hk) kk
theorem zY.none6 {Γ : zCx} {ω : zOm} {pc : Nat} {lv : List (Option Value)} {st : List Value} {μ : zMem} {o0 o1 o2 o3 o4 o5 o6 : Option Value} (kk : zY Γ ω pc (o0 :: o1 :: o2 :: o3 :: o4 :: o5 :: none :: lv) st μ) : zY Γ ω pc (o0 :: o1 :: o2 :: o3 :: o4 :: o5 :: o6 :: lv) st μ :=
  zY.lds (by simp) (fun k v hk => by
    match k, hk with
    | 0, hk => exact hk
    | 1, hk => exact hk
    | 2, hk => exact hk
    | 3, hk => exact hk
    | 4, hk => exact hk
    | 5, hk => exact hk
    | 6, hk => cases hk
    | k + 7, hk => exact hk) kk
theorem zY.none7 {Γ : zCx} {ω : zOm} {pc : Nat} {lv : List (Option Value)} {st : List Value} {μ : zMem} {o0 o1 o2 o3 o4 o5 o6 o7 : Option Value} (kk : zY Γ ω pc (o0 :: o1 :: o2 :: o3 :: o4 :: o5 :: o6 :: none :: lv) st μ) : zY Γ ω pc (o0 :: o1 :: o2 :: o3 :: o4 :: o5 :: o6 :: o7 :: lv) st μ :=
  zY.lds (by simp) (fun k v hk => by
    match k, hk with
    | 0, hk => exact hk
    | 1, hk => exact hk
    | 2, hk => exact hk
    | 3, hk => exact hk
    | 4, hk => exact hk
    | 5, hk => exact hk
    | 6, hk => exact hk
    | 7, hk => cases hk
    | k + 8, hk => exact hk) kk
theorem zY.none8 {Γ : zCx} {ω : zOm} {pc : Nat} {lv : List (Option Value)} {st : List Value} {μ : zMem} {o0 o1 o2 o3 o4 o5 o6 o7 o8 : Option Value} (kk : zY Γ ω pc (o0 :: o1 :: o2 :: o3 :: o4 :: o5 :: o6 :: o7 :: none :: lv) st μ) : zY Γ ω pc (o0 :: o1 :: o2 :: o3 :: o4 :: o5 :: o6 :: o7 :: o8 :: lv) st μ :=
  zY.lds (by simp) (fun k v hk => by
    match k, hk with
    | 0, hk => exact hk
    | 1, hk => exact hk
    | 2, hk => exact hk
    | 3, hk => exact hk
    | 4, hk => exact hk
    | 5, hk => exact hk
    | 6, hk => exact hk
    | 7, hk => exact hk
    | 8, hk => cases hk
    | k + 9, hk => exact hk) kk
theorem zY.none9 {Γ : zCx} {ω : zOm} {pc : Nat} {lv : List (Option Value)} {st : List Value} {μ : zMem} {o0 o1 o2 o3 o4 o5 o6 o7 o8 o9 : Option Value} (kk : zY Γ ω pc (o0 :: o1 :: o2 :: o3 :: o4 :: o5 :: o6 :: o7 :: o8 :: none :: lv) st μ) : zY Γ ω pc (o0 :: o1 :: o2 :: o3 :: o4 :: o5 :: o6 :: o7 :: o8 :: o9 :: lv) st μ :=
  zY.lds (by simp) (fun k v hk => by
    match k, hk with
    | 0, hk => exact hk
    | 1, hk => exact hk
    | 2, hk => exact hk
    | 3, hk => exact hk
    | 4, hk => exact hk
    | 5, hk => exact hk
    | 6, hk => exact hk
    | 7, hk => exact hk
    | 8, hk => exact hk
    | 9, hk => cases hk
    | k + 10, hk => exact hk) kk
theorem zY.none10 {Γ : zCx} {ω : zOm} {pc : Nat} {lv : List (Option Value)} {st : List Value} {μ : zMem} {o0 o1 o2 o3 o4 o5 o6 o7 o8 o9 o10 : Option Value} (kk : zY Γ ω pc (o0 :: o1 :: o2 :: o3 :: o4 :: o5 :: o6 :: o7 :: o8 :: o9 :: none :: lv) st μ) : zY Γ ω pc (o0 :: o1 :: o2 :: o3 :: o4 :: o5 :: o6 :: o7 :: o8 :: o9 :: o10 :: lv) st μ :=
  zY.lds (by simp) (fun k v hk => by
    match k, hk with
    | 0, hk => exact hk
    | 1, hk => exact hk
    | 2, hk => exact hk
    | 3, hk => exact hk
    | 4, hk => exact hk
    | 5, hk => exact hk
    | 6, hk => exact hk
    | 7, hk => exact hk
    | 8, hk => exact hk
    | 9, hk => exact hk
    | 10, hk => cases hk
    | k + 11, hk => exact hk) kk
theorem zY.none11 {Γ : zCx} {ω : zOm} {pc : Nat} {lv : List (Option Value)} {st : List Value} {μ : zMem} {o0 o1 o2 o3 o4 o5 o6 o7 o8 o9 o10 o11 : Option Value} (kk : zY Γ ω pc (o0 :: o1 :: o2 :: o3 :: o4 :: o5 :: o6 :: o7 :: o8 :: o9 :: o10 :: none :: lv) st μ) : zY Γ ω pc (o0 :: o1 :: o2 :: o3 :: o4 :: o5 :: o6 :: o7 :: o8 :: o9 :: o10 :: o11 :: lv) st μ :=
  zY.lds (by simp) (fun k v hk => by
    match k, hk with
    | 0, hk => exact hk
    | 1, hk => exact hk
    | 2, hk => exact hk
    | 3, hk => exact hk
    | 4, hk => exact hk
    | 5, hk => exact hk
    | 6, hk => exact hk
    | 7, hk => exact hk
    | 8, hk => exact hk
    | 9, hk => exact hk
    | 10, hk => exact hk
    | 11, hk => cases hk
    | k + 12, hk => exact hk) kk
theorem zY.none12 {Γ : zCx} {ω : zOm} {pc : Nat} {lv : List (Option Value)} {st : List Value} {μ : zMem} {o0 o1 o2 o3 o4 o5 o6 o7 o8 o9 o10 o11 o12 : Option Value} (kk : zY Γ ω pc (o0 :: o1 :: o2 :: o3 :: o4 :: o5 :: o6 :: o7 :: o8 :: o9 :: o10 :: o11 :: none :: lv) st μ) : zY Γ ω pc (o0 :: o1 :: o2 :: o3 :: o4 :: o5 :: o6 :: o7 :: o8 :: o9 :: o10 :: o11 :: o12 :: lv) st μ :=
  zY.lds (by simp) (fun k v hk => by
    match k, hk with
    | 0, hk => exact hk
    | 1, hk => exact hk
    | 2, hk => exact hk
    | 3, hk => exact hk
    | 4, hk => exact hk
    | 5, hk => exact hk
    | 6, hk => exact hk
    | 7, hk => exact hk
    | 8, hk => exact hk
    | 9, hk => exact hk
    | 10, hk => exact hk
    | 11, hk => exact hk
    | 12, hk => cases hk
    | k + 13, hk => exact hk) kk
