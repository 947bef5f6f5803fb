/-! the start, and the claim -/
theorem zT_sub : ∀ w ∈ zT, w ∈ lw_tbl := fun w h => (List.mem_filter.mp h).1
set_option maxRecDepth 100000 in
theorem zNest_in : ∀ q ∈ zNest, Cond.methodLinkNest q.1 q.2.1 q.2.2.1 q.2.2.2 ∈ lw_tbl := by decide +kernel
theorem zArr {s : State} {args : Array Value} {ty : FieldType} (h : (Cond.arrayClass ty).before args s = true) (hno : ∀ C, ty ≠ .object C) : ∃ cA : ClassId, ArrOfT s cA ty ∧ va_RA s cA ty := by
  obtain ⟨cA, kA, comp, h1, h2, h3⟩ := Cond.arrayClass_spec h
  refine ⟨cA, fun n z => ⟨fun k h => (by cases h), kA, h2, comp, h3⟩, ?_⟩
  cases ty with
  | object C => exact absurd rfl (hno C)
  | _ => exact h1
set_option maxRecDepth 100000 in
set_option maxHeartbeats 4000000 in
theorem zK_start {s : State} {args : Array Value} (htl : ∀ w ∈ lw_tbl, w.before args s = true) : ∃ (D : va_G) (cc : zC3), zK D cc s := by
  have hts : ∀ w ∈ zT, w.before args s = true := fun w h => htl w (zT_sub w h)
  obtain ⟨c0q, i0q, hk0q⟩ := u_known (C := RX0) (T := TX0) (N := 2) (n := 2) hts zin_X0 (hts _ zis_X0)
  obtain ⟨c1q, i1q, hk1q⟩ := u_known (C := RX1) (T := TX1) (N := 6) (n := 6) hts zin_X1 (hts _ zis_X1)
  obtain ⟨c2q, i2q, hk2q⟩ := u_known (C := RX2) (T := TX2) (N := 2) (n := 2) hts zin_X2 (hts _ zis_X2)
  obtain ⟨c3q, i3q, hk3q⟩ := u_known (C := RX3) (T := TX3) (N := 2) (n := 2) hts zin_X3 (hts _ zis_X3)
  obtain ⟨c4q, i4q, hk4q⟩ := u_known (C := RX4) (T := TX4) (N := 7) (n := 7) hts zin_X4 (hts _ zis_X4)
  obtain ⟨c5q, i5q, hk5q⟩ := u_known (C := RX5) (T := TX5) (N := 1) (n := 1) hts zin_X5 (hts _ zis_X5)
  obtain ⟨c6q, i6q, hk6q⟩ := u_known (C := RX6) (T := TX6) (N := 8) (n := 8) hts zin_X6 (hts _ zis_X6)
  obtain ⟨c7q, i7q, hk7q⟩ := u_known (C := RX7) (T := TX7) (N := 2) (n := 2) hts zin_X7 (hts _ zis_X7)
  obtain ⟨c8q, i8q, hk8q⟩ := u_known (C := RX8) (T := TX8) (N := 7) (n := 7) hts zin_X8 (hts _ zis_X8)
  obtain ⟨c9q, i9q, hk9q⟩ := u_known (C := RX9) (T := TX9) (N := 5) (n := 5) hts zin_X9 (hts _ zis_X9)
  obtain ⟨c10q, i10q, hk10q⟩ := u_known (C := RX10) (T := TX10) (N := 9) (n := 9) hts zin_X10 (hts _ zis_X10)
  obtain ⟨c11q, i11q, hk11q⟩ := u_known (C := RX11) (T := TX11) (N := 30) (n := 30) hts zin_X11 (hts _ zis_X11)
  obtain ⟨ai, hai⟩ := zArr (hts _ zac_int) (fun C z => by cases z)
  obtain ⟨aj, haj⟩ := zArr (hts _ zac_long) (fun C z => by cases z)
  obtain ⟨az, haz⟩ := zArr (hts _ zac_boolean) (fun C z => by cases z)
  refine ⟨(fun k => match k with | 0 => c0q | 1 => c1q | 2 => c2q | 3 => c3q | 4 => c4q | 5 => c5q | 6 => c6q | 7 => c7q | 8 => c8q | 9 => c9q | 10 => c10q | _ => c11q, fun k => match k with | 0 => i0q | 1 => i1q | 2 => i2q | 3 => i3q | 4 => i4q | 5 => i5q | 6 => i6q | 7 => i7q | 8 => i8q | 9 => i9q | 10 => i10q | _ => i11q), (ai, aj, az), ⟨fun k q hq => ?_, fun k q hq => ?_⟩, fun q hq => va_Nw.of rfl (htl _ (zNest_in q hq))⟩
  · match k, hq with
    | 0, hq => cases hq; exact hk0q
    | 1, hq => cases hq; exact hk1q
    | 2, hq => cases hq; exact hk2q
    | 3, hq => cases hq; exact hk3q
    | 4, hq => cases hq; exact hk4q
    | 5, hq => cases hq; exact hk5q
    | 6, hq => cases hq; exact hk6q
    | 7, hq => cases hq; exact hk7q
    | 8, hq => cases hq; exact hk8q
    | 9, hq => cases hq; exact hk9q
    | 10, hq => cases hq; exact hk10q
    | 11, hq => cases hq; exact hk11q
    | k + 12, hq => exact absurd hq (by simp [vwCl])
  · match k, hq with
    | 0, hq => cases hq; exact hai
    | 1, hq => cases hq; exact haj
    | 2, hq => cases hq; exact haz
    | k + 3, hq => simp at hq

set_option maxRecDepth 100000 in
set_option maxHeartbeats 4000000 in
theorem law_head {Γ : zCx} {ad : Nat → Nat} {b L : Nat} {xs : Nat → Int32} (hO : zok Γ kL_law 40) (hG : zgrw Γ 600000 7302250) (hSc : zSc Γ b L xs) (hadb : ad 1000 = b) (hL : L ≤ 1536) (he : zLe Γ b) {μ : zMem} : zY Γ (0, zSX, ad, 0, 0) 0 [some (zP 1000), none, none, none] [] μ := by
  have had : zag 0 ad ad := zag.rfl'
  refine zY.new (sh' := zu 0 10 [(3, 0), (3, 0), (3, 0), (3, 0), (3, 0), (3, 0), (3, 0), (3, 0), (3, 0)] zSX) (n1 := 1) (c1 := 1) (s1 := 9) zkk_L_7 hG had (Nat.le_refl _) (by decide) (fun q h => by omega) zu_eq (fun q h => by omega) (zlwL_some (zlw_P (Or.inr (by decide))) (zlwL_none (zlwL_none (zlwL_none zlwL_nil)))) zlwS_nil rfl rfl rfl ⟨by decide, by decide⟩ hO dL_law_0 (fun ad1 had => ?_)
  refine zY.dup rfl hO dL_law_3 ?_
  refine zY.callI0 (n' := 127) (sh' := zSX) (c1 := 127) (s1 := 4167) (cn_X10_0 (fun q h => by omega)) (by decide) zcal_X10_init rfl rfl zml_L_9 (Nat.le_of_ble_eq_true rfl) rfl hG had (by decide) (fun q _ => zd_SX q) (zlwL_some (zlw_P (Or.inr (by decide))) (zlwL_none (zlwL_none (zlwL_none zlwL_nil)))) (zlwS_cons (zlw_P (Or.inl (by decide))) zlwS_nil) rfl rfl ⟨by decide, by decide⟩ hO dL_law_4 (fun ad2 μ2 had hq2 => ?_)
  refine zY.astore1 (zc1_P _) hO dL_law_7 ?_
  refine zY.new (sh' := zu 127 11 [(3, 0), (3, 0), (3, 0), (3, 0), (3, 0), (3, 0), (3, 0), (3, 0), (1, 0), (1, 0), (3, 0), (1, 0), (3, 0), (3, 0), (1, 0), (1, 0), (1, 0), (3, 0), (3, 0), (3, 0), (3, 0), (3, 0), (3, 0), (3, 0), (3, 0), (3, 0), (3, 0), (3, 0), (1, 0), (1, 0)] zSX) (n1 := 128) (c1 := 128) (s1 := 4197) zkk_L_10 hG had (by decide) (by decide) zsok_127 zu_eq (fun q h => zu_lt h) (zlwL_some (zlw_P (Or.inr (by decide))) (zlwL_some (zlw_P (Or.inl (by decide))) (zlwL_none (zlwL_none zlwL_nil)))) zlwS_nil rfl rfl rfl ⟨by decide, by decide⟩ hO dL_law_8 (fun ad3 had => ?_)
  refine zY.dup rfl hO dL_law_11 ?_
  refine zY.callI0 (n' := 150) (sh' := zSX) (c1 := 150) (s1 := 13277) (cn_X11_127 zsok_127 (fun j => by rw [zrow_eq])) (by decide) zcal_X11_init rfl rfl zml_L_12 (Nat.le_of_ble_eq_true rfl) rfl hG had (by decide) (fun q _ => zd_SX q) (zlwL_some (zlw_P (Or.inr (by decide))) (zlwL_some (zlw_P (Or.inl (by decide))) (zlwL_none (zlwL_none zlwL_nil)))) (zlwS_cons (zlw_P (Or.inl (by decide))) zlwS_nil) rfl rfl ⟨by decide, by decide⟩ hO dL_law_12 (fun ad4 μ4 had hq4 => ?_)
  refine zY.astore2 (zc1_P _) hO dL_law_15 ?_
  refine zY.iconst hO dL_law_16 ?_
  refine zY.istore3 (zc1_P _) hO dL_law_17 ?_
  have hlo : ∀ q, q < 127 → μ4 q = μ2 q := fun q hq => (hq4.2 q hq).trans (zrow_ne (by omega))
  exact law_loop hO hG hSc ((had 1000 (Or.inr (by decide))).trans hadb) hL he 0 (Nat.zero_le _) zD0 none none μ4 (zRX_lo hq2.1 hlo) (zCho_of hq2.2 (hlo 108 (by decide))) hq4.1

set_option maxRecDepth 100000 in
set_option maxHeartbeats 4000000 in
theorem whole_start {p : Program} {e : Env} {s : State} {m : MethodId} {below : List Frame} {meth : Method} {c : Code} (l : Launch) (hflags : l.flags = flags0) {b L : Nat} {xs : Nat → Int32} (hL : L ≤ 1536) (C0 : lw_At p s m meth c b L xs) : W p l e room_1 s m #[Value.ref b] below meth c s.heap [] 0 0 (lw_Z below #[Value.ref b] s) (entryFrame m ([Value.ref b] : List Value).toArray 4) := by
  obtain ⟨hx, hb, hr, hml, hown, hts, hX, hbl, hlocks, hgv⟩ := C0
  obtain ⟨D, cc, hK⟩ := zK_start hts
  have h0 := law_head (Γ := ((p, l, e, room_1), (s, m, #[Value.ref b], below), (meth, c, D), (cc, (fun q => s.heap.size ≤ q), s.heap, lw_Z below #[Value.ref b] s))) (ad := fun _ => b) (b := b) (L := L) (xs := xs) (μ := fun _ _ => 0)
    ⟨hx, hb, hml, hown, fun w hw => hts w (zT_sub w hw), hK, hlocks, Nat.le_of_ble_eq_true rfl, Nat.le_of_ble_eq_true rfl, hr⟩ ⟨fun q h => h, rfl, rfl⟩ ⟨hX, hbl, fun z => absurd hbl (Nat.not_lt.mpr z)⟩ rfl hL ⟨rfl, rfl, rfl, rfl⟩
  rw [lg_entry_eq]
  exact h0 s.heap [] _ ⟨fun k q h => by simp [zwl] at h, ⟨fun i j p q h => by simp [zwl] at h, fun k q h => by simp [zwl] at h⟩⟩ va_S.rf (zLv_entry (av := [zP 1000]) (n := 4) rfl (Nat.le_of_ble_eq_true rfl))
set_option maxHeartbeats 4000000 in
theorem lw_walk (l : Launch) (hflags : l.flags = flags0) (b : Addr) (xs : List Int32) : MetFree l x (headSpec (Jvm.Cond.code x code maxLocals ret :: tables_1) room_1) (lw_P b xs) (fun _ _ _ _ _ => True) lw_Q := by
  refine MetFree.of_bodyS (code := code) (maxLocals := maxLocals) (ret := ret) (by decide) ?_ ?_
  · intro args s m h hn
    obtain ⟨meth, c, h1, h2, h3, h4, h5, h6, -, -⟩ := Cond.code_spec hn (atoms_spec (ws := Jvm.Cond.code x code maxLocals ret :: tables_1) h _ List.mem_cons_self)
    exact ⟨meth, c, h1, h2, h3, h4, h5, h6⟩
  · intro p e s m args below meth c s₁ B hml0 hP _
    obtain ⟨rfl, hx, hbd, hgv⟩ := hP
    obtain ⟨scr, harrAt, hlist, hof, hsmall⟩ := hx
    obtain ⟨hcb, hkn, -, -⟩ := State.arrayAt?_spec harrAt
    have hown : s.vm.findClass R_law = some m.cls := findClass_of_methodNamed B.named
    have hts0 : ∀ c ∈ (Jvm.Cond.code x code maxLocals ret :: tables_1), c.before #[Value.ref b] s = true := atoms_spec (ws := Jvm.Cond.code x code maxLocals ret :: tables_1) B.pre
    have hts : ∀ w ∈ lw_tbl, w.before #[Value.ref b] s = true := k2_hts_sels lw_privs (fun w hw => hts0 w (List.mem_cons_of_mem _ hw)) lw_privs_ok
    have hml : c.maxLocals = 4 := B.maxLocals_eq (hts0 _ List.mem_cons_self)
    have X₀ : Stand p l e room_1 s m #[Value.ref b] below meth c s₁ [] 0 0 := Stand.of_body B
    have hh0 : s₁.heap = s.heap := by rw [B.state]; rfl
    have hsz : scr.slots.size = xs.length := by rw [← Array.length_toList, hlist, List.length_map]
    have hval : ∀ j : Nat, j < xs.length → scr.slots[j]? = some (.int (xs.getD j 0)) := fun j hj => by
      rw [← Array.getElem?_toList, hlist]
      simp [hj]
    have hbl : b < s.heap.size := (Array.getElem?_eq_some_iff.mp hcb).1
    have hX : va_X b xs.length (fun j => xs.getD j 0) s s.heap := ⟨scr, hcb, hof, hkn, hsz, hval⟩
    have K : W p l e room_1 s m #[Value.ref b] below meth c s₁.heap [] 0 0 (lw_Z below #[Value.ref b] s) (entryFrame m ([Value.ref b] : List Value).toArray 4) := by
      rw [hh0]
      exact whole_start l hflags hbd ⟨B.exec, B.bytes, B.returns, hml, hown, hts, hX, hbl, B.notSynchronized, hgv⟩
    obtain ⟨t, a1, o, b1, b2, b3⟩ := K s₁ rfl X₀
    exact ⟨t, o, a1, b1, b2, b3⟩
theorem lw_pre_spec {args : Array Value} {s : State} (h : (Jvm.Cond.and given_1 narrow_1).before args s = true) (hr : rest_1_c.before args s = true) : ∃ (b : Addr) (xs : List Int32), lw_P b xs args s := by
  have hs := flat_of_before _ h
  have hq := flat_of_before _ hr
  have hc : (Cond.count 1).before args s = true := hs _ (by decide +kernel)
  have harr : (Cond.arrayOf (.arg 0) .int).before args s = true := hs _ (by decide +kernel)
  have hle : (Cond.le (.length (.arg 0)) (.int 1536)).before args s = true := hs _ (by decide +kernel)
  have hlen : (Cond.isInt (.length (.arg 0))).before args s = true := hq _ (by decide +kernel)
  have hall : (Cond.all (.arg 0) (.isInt (.elem (.arg 0) (.index 0)))).before args s = true := hq _ (by decide +kernel)
  obtain ⟨b, xs, hb, hx⟩ := State.ints_of_pre rfl harr hlen hall
  have hsm : xs.length < 2 ^ 31 := hx.choose_spec.2.2.2
  have hev : (Term.length (.arg 0)).eval args s none [] s = some (.int xs.length.toInt32) := hx.length_eval hb
  have hv := Cond.le_ints hev (show (Term.int 1536).eval args s none [] s = some (.int 1536) from rfl)
  have hd : xs.length.toInt32 ≤ 1536 := by
    simpa [Cond.before, Cond.holds, hv] using hle
  have hN : xs.length ≤ 1536 := (Int32.ofNat_le_ofNat hsm (by decide)).mp (show Int32.ofNat xs.length ≤ Int32.ofNat 1536 from hd)
  exact ⟨b, xs, Cond.one_arg hc (show args[0]? = some (.ref b) from hb), hx, hN, h⟩
theorem lw_comes (l : Launch) (hflags : l.flags = flags0) : Comes l x (Jvm.Cond.code x code maxLocals ret :: tables_1) room_1 (fun tb e args s => Calls_1 tb e args s ∧ rest_1 tb e args s ∧ Pre_1 tb e args s)
    (fun _ _ args s o t => lw_Q args s o t) := by
  intro p e ha hc hk s m args below hf hfit hheap happ hpre
  obtain ⟨b, xs, hP⟩ := lw_pre_spec hpre.2.2 hpre.2.1
  obtain ⟨k, o, h1, h2, h3, hQ⟩ := lw_walk l hflags b xs p e ha hc hk s m args below hf ((Spec.applies_iff_loose hf).mp happ).1 hP trivial
  exact ⟨k, o, h1, h2, h3, hQ⟩
theorem lw_frame {s t : State} {o : Outcome} {args : Array Value} (h : Framed s o t [] 600000 7302250) :
    Framed s o t (fieldLocs frame_1_writes args s ++ arrayLocs frame_1_arrays args s ++ staticLocs frame_1_statics s) 600000 7302250 := h
theorem lw_limb (L : Cond) (hL : ∀ (args : Array Value) (s t : State), L.after args s (.returned (some (.int 1))) t = true) :
    ArmFor flags0 classFile x code maxLocals ret World_1 tables_1 room_1 Calls_1 rest_1 Pre_1
      (fun tb e a s o t => postC L tb e a s o t ∧ Framed s o t (fieldLocs frame_1_writes a s ++ arrayLocs frame_1_arrays a s ++ staticLocs frame_1_statics s) 600000 7302250) := by
  intro l hflags _ _ p e ha hc hk s m args below hf hfit hheap happ hpre
  obtain ⟨k, o, h1, h2, h3, rfl, hF⟩ := lw_comes l hflags p e ha hc hk s m args below hf hfit hheap happ hpre
  exact ⟨k, _, h1, h2, h3, hL args s _, lw_frame hF⟩
theorem i_vc : Claimed_1_1 ∧ Claimed_1_2 := ⟨lw_limb limb_1_1 (fun args s t => by simp [limb_1_1, Cond.after, Cond.holds, Cond.value]), lw_limb limb_1_2 (fun args s t => Cond.after_iff.mpr (by
  first | (rw [show limb_1_2 = Cond.eq .result (.int 1) from rfl, Cond.eq_ints (x := 1) (y := 1) rfl rfl]; simp; done) | (simp [limb_1_2, Cond.value, Term.eval]; done)))⟩
