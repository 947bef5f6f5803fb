/-! two rows as they stand on the pad: what is meant -/
abbrev zdig (D : zBk) (j : Nat) : Prop := 48 ≤ D 9 j ∧ D 9 j ≤ 53 ∧ (zthD D).testBit (zord D j) = true
theorem zfo_run {D : zBk} {colon : Int} (hc : 0 ≤ colon) : ∀ k left i, left < 64 → (∀ x, x < 6 → left.testBit x = true → (zthD D).testBit x = true) → zfo D true k left colon i = -6 →
    (k : Int) ≤ zpc left ∧ (∀ j, i ≤ j → j < i + k → zdig D j) ∧ colon ≠ (zN D : Int) - 1
  | 0, left, i, h64, hs, h => by
    have hp := zpc_b left
    simp only [zfo] at h
    refine ⟨by omega, fun j h1 h2 => by omega, ?_⟩
    intro e
    rw [if_pos trivial, if_pos (Or.inr e)] at h
    omega
  | k + 1, left, i, h64, hs, h => by
    simp only [zfo] at h
    rw [if_neg (fun z => by have := z.2.2.1; omega)] at h
    by_cases hd : 48 ≤ D 9 i ∧ D 9 i ≤ 53 ∧ left.testBit (D 9 i - 48).toNat = true
    · rw [if_pos hd] at h
      have ho : zord D i < 6 := by unfold zord; omega
      have hb : left.testBit (zord D i) = true := hd.2.2
      have ih := zfo_run hc k _ (i + 1) (zb_cut64 h64) (fun x hx hxb => hs x hx (by
        rw [show (D 9 i - 48).toNat = zord D i from rfl, zb_cut h64 ho hx, Bool.and_eq_true] at hxb
        exact hxb.1)) h
      have hz := zpc_cut left h64 _ ho hb
      refine ⟨?_, ?_, ih.2.2⟩
      · have := ih.1
        rw [show (D 9 i - 48).toNat = zord D i from rfl, hz] at this
        omega
      · intro j h1 h2
        by_cases e : j = i
        · subst e; exact ⟨hd.1, hd.2.1, hs _ ho hb⟩
        · exact ih.2.1 j (by omega) (by omega)
    · rw [if_neg hd] at h
      omega
theorem zfo_two {D : zBk} : ∀ k left i, left < 64 → (∀ x, x < 6 → left.testBit x = true → (zthD D).testBit x = true) → i + k = zN D → zfo D true k left (-6) i = -6 →
    (k : Int) ≤ zpc left + 1 ∧ ∃ c : Nat, i ≤ c ∧ 0 < c ∧ c + 1 < zN D ∧ D 9 c = 58 ∧ (∀ j, i ≤ j → j < zN D → j ≠ c → zdig D j)
  | 0, left, i, h64, hs, hk, h => by
    have hp := zpc_b left
    simp only [zfo] at h
    rw [if_pos trivial, if_pos (Or.inl (by decide))] at h
    omega
  | k + 1, left, i, h64, hs, hk, h => by
    simp only [zfo] at h
    by_cases hcol : D 9 i = 58 ∧ True ∧ (-6 : Int) < 0 ∧ 0 < i
    · rw [if_pos hcol] at h
      have hr := zfo_run (Int.natCast_nonneg i) k left (i + 1) h64 hs h
      refine ⟨by have := hr.1; omega, i, Nat.le_refl i, hcol.2.2.2, by have := hr.2.2; omega, hcol.1, fun j h1 h2 h3 => hr.2.1 j (by omega) (by omega)⟩
    · rw [if_neg hcol] at h
      by_cases hd : 48 ≤ D 9 i ∧ D 9 i ≤ 53 ∧ left.testBit (D 9 i - 48).toNat = true
      · rw [if_pos hd] at h
        have ho : zord D i < 6 := by unfold zord; omega
        have hb : left.testBit (zord D i) = true := hd.2.2
        obtain ⟨ih1, c, ih2, ih3, ih4, ih5, ih6⟩ := zfo_two k _ (i + 1) (zb_cut64 h64) (fun x hx hxb => hs x hx (by
          rw [show (D 9 i - 48).toNat = zord D i from rfl, zb_cut h64 ho hx, Bool.and_eq_true] at hxb
          exact hxb.1)) (by omega) h
        have hz := zpc_cut left h64 _ ho hb
        rw [show (D 9 i - 48).toNat = zord D i from rfl, hz] at ih1
        refine ⟨by omega, c, by omega, ih3, ih4, ih5, fun j h1 h2 h3 => ?_⟩
        by_cases e : j = i
        · subst e; exact ⟨hd.1, hd.2.1, hs _ ho hb⟩
        · exact ih6 j (by omega) h2 h3
      · rw [if_neg hd] at h
        omega
/-- the pad is two rows, with the colon at place c -/
def zTwo (D : zBk) (c : Nat) : Prop := 0 < c ∧ c + 1 < zN D ∧ zN D ≤ 7 ∧ D 9 c = 58 ∧ ∀ i, i < zN D → i ≠ c → D 9 i = 48 + (zord D i : Int) ∧ zord D i < 6 ∧ 0 < D 4 (zord D i)
theorem zTwo_of {D : zBk} (h : zflt D 3 = -6) : ∃ c, zTwo D c := by
  have h1 : zfo D true (zN D) (zthD D) (-6) 0 = -6 := by
    unfold zflt at h
    rw [if_neg (by decide), if_neg (by decide), if_neg (by decide), if_pos rfl] at h
    exact h
  obtain ⟨h2, c, h3, h4, h5, h6, h7⟩ := zfo_two _ _ _ (zthD_64 D) (fun _ _ z => z) (by omega) h1
  have hp := zpc_b (zthD D)
  refine ⟨c, h4, h5, by omega, h6, fun i hi hc => ?_⟩
  have h8 := h7 i (by omega) hi hc
  have h9 : zord D i < 6 := by unfold zord; omega
  refine ⟨by unfold zord; omega, h9, ?_⟩
  have h5 := h8.2.2
  rw [zthD_bit h9] at h5
  exact of_decide_eq_true h5
theorem zTwo.col {D : zBk} {c : Nat} (h : zTwo D c) : zcol D = (c : Int) := by
  unfold zcol
  refine zfst_is (by have := h.2.1; omega) (decide_eq_true h.2.2.2.1) (fun j hj => ?_)
  have h2 := h.2.2.2.2 j (by have := h.2.1; omega) (by omega)
  rw [decide_eq_true_eq]
  omega
/-- some sheets printed, from place o on -/
def zlra (D : zBk) (o : Nat) : Nat → (Nat → Int) → (Nat → Int)
  | 0, f => f
  | k + 1, f => zls (zlra D o k f) (zbx D (zord D (o + k)) 0)
def zlr (D : zBk) (c p1 p2 : Nat) : Nat → Int := zlra D (c + 1) p2 (zlra D 0 p1 (D 5))
theorem zlra_b {D : zBk} {o x : Nat} {f : Nat → Int} (h : 0 ≤ f x ∧ f x ≤ 99) : ∀ k, 0 ≤ zlra D o k f x ∧ zlra D o k f x ≤ 99
  | 0 => h
  | k + 1 => zls_b (zlra_b h k)
theorem zlr_b {D : zBk} (hW : zWF D) (c p1 p2 : Nat) {x : Nat} (hx : x < 6) : 0 ≤ zlr D c p1 p2 x ∧ zlr D c p1 p2 x ≤ 99 := by
  have := hW.2.1 x hx
  exact zlra_b (zlra_b ⟨by omega, by omega⟩ _) _
/-- one step on: what is reached -/
def zrea (st : Nat → Int) (p : Nat) (v : Int) : Nat → Int := fun j => if j = p ∧ (st p = -6 ∨ v < st p) then v else st j
def zn1 (D : zBk) (p1 : Nat) : Nat → Int := znd D (zord D p1) 0
def zn2 (D : zBk) (c p2 : Nat) : Nat → Int := znd D (zord D (c + 1 + p2)) 0
def zq1 (D : zBk) (c p1 p2 : Nat) (v : Int) (st : Nat → Int) : Nat → Int := if p1 < c ∧ zlk (zn1 D p1) (zlr D c p1 p2) = 0 then zrea st (7 * p1 + p2 + 7) v else st
def zq2 (D : zBk) (c r p1 p2 : Nat) (v : Int) (st : Nat → Int) : Nat → Int := if p2 < r ∧ zlk (zn2 D c p2) (zlr D c p1 p2) = 0 then zrea st (7 * p1 + p2 + 1) v else st
def zq3 (D : zBk) (c r p1 p2 : Nat) (v : Int) (st : Nat → Int) : Nat → Int := if p1 < c ∧ p2 < r ∧ zlk (fun x => zn1 D p1 x + zn2 D c p2 x) (zlr D c p1 p2) = 0 then zrea st (7 * p1 + p2 + 8) v else st
def zq (D : zBk) (c r p1 p2 : Nat) (v : Int) (st : Nat → Int) : Nat → Int := zq3 D c r p1 p2 v (zq2 D c r p1 p2 v (zq1 D c p1 p2 v st))
def zcel (D : zBk) (c r p1 p2 : Nat) (st : Nat → Int) : Nat → Int := if st (7 * p1 + p2) = -6 then st else zq D c r p1 p2 (st (7 * p1 + p2) + 1) st
def zcer (D : zBk) (c r p1 : Nat) : Nat → (Nat → Int) → (Nat → Int)
  | 0, st => st
  | k + 1, st => zcel D c r p1 k (zcer D c r p1 k st)
def zces (D : zBk) (c r : Nat) : Nat → (Nat → Int) → (Nat → Int)
  | 0, st => st
  | k + 1, st => zcer D c r k (r + 1) (zces D c r k st)
def zs0 : Nat → Int := fun j => if j = 0 then 0 else -6
def zA_presses (D : zBk) : Int := if zflt D 3 = -6 then zces D (zcol D).toNat (zN D - (zcol D).toNat - 1) ((zcol D).toNat + 1) zs0 (7 * (zcol D).toNat + (zN D - (zcol D).toNat - 1)) else -5
def zsti (st : Nat → Int) : Prop := ∀ p, p < 49 → st p = -6 ∨ (0 ≤ st p ∧ st p ≤ p)
theorem zrea_i {st : Nat → Int} {p : Nat} {v : Int} (h : zsti st) (hp : p < 49) (hv : 0 ≤ v ∧ v ≤ p) : zsti (zrea st p v) := by
  intro j hj
  unfold zrea
  split
  next e => right; rw [e.1]; exact hv
  next => exact h j hj
theorem zq1_i {D : zBk} {c p1 p2 : Nat} {v : Int} {st : Nat → Int} (h : zsti st) (hc : c ≤ 5) (h1 : p1 ≤ c) (h2 : p2 ≤ 5) (hv : 0 ≤ v ∧ v ≤ 7 * p1 + p2 + 1) : zsti (zq1 D c p1 p2 v st) := by
  unfold zq1
  split
  next e => exact zrea_i h (by omega) (by omega)
  next => exact h
theorem zq2_i {D : zBk} {c r p1 p2 : Nat} {v : Int} {st : Nat → Int} (h : zsti st) (hc : c ≤ 5) (hr : r ≤ 5) (h1 : p1 ≤ c) (h2 : p2 ≤ r) (hv : 0 ≤ v ∧ v ≤ 7 * p1 + p2 + 1) : zsti (zq2 D c r p1 p2 v st) := by
  unfold zq2
  split
  next e => exact zrea_i h (by omega) (by omega)
  next => exact h
theorem zq3_i {D : zBk} {c r p1 p2 : Nat} {v : Int} {st : Nat → Int} (h : zsti st) (hc : c ≤ 5) (hr : r ≤ 5) (h1 : p1 ≤ c) (h2 : p2 ≤ r) (hv : 0 ≤ v ∧ v ≤ 7 * p1 + p2 + 1) : zsti (zq3 D c r p1 p2 v st) := by
  unfold zq3
  split
  next e => exact zrea_i h (by omega) (by omega)
  next => exact h
theorem zcel_i {D : zBk} {c r p1 p2 : Nat} {st : Nat → Int} (h : zsti st) (hc : c ≤ 5) (hr : r ≤ 5) (h1 : p1 ≤ c) (h2 : p2 ≤ r) : zsti (zcel D c r p1 p2 st) := by
  unfold zcel
  split
  · exact h
  next e =>
    have hv := h (7 * p1 + p2) (by omega)
    have hv2 : 0 ≤ st (7 * p1 + p2) + 1 ∧ st (7 * p1 + p2) + 1 ≤ 7 * p1 + p2 + 1 := by omega
    exact zq3_i (zq2_i (zq1_i h hc h1 (by omega) hv2) hc hr h1 h2 hv2) hc hr h1 h2 hv2
theorem zcer_i {D : zBk} {c r p1 : Nat} {st : Nat → Int} (h : zsti st) (hc : c ≤ 5) (hr : r ≤ 5) (h1 : p1 ≤ c) : ∀ k, k ≤ r + 1 → zsti (zcer D c r p1 k st)
  | 0, _ => h
  | k + 1, hk => zcel_i (zcer_i h hc hr h1 k (by omega)) hc hr h1 (by omega)
theorem zces_i {D : zBk} {c r : Nat} {st : Nat → Int} (h : zsti st) (hc : c ≤ 5) (hr : r ≤ 5) : ∀ k, k ≤ c + 1 → zsti (zces D c r k st)
  | 0, _ => h
  | k + 1, hk => zcer_i (zces_i h hc hr k (by omega)) hc hr (by omega) _ (Nat.le_refl _)
/-! only the 49 count -/
def zsq (st st2 : Nat → Int) : Prop := ∀ p, p < 49 → st p = st2 p
theorem zrea_c {st st2 : Nat → Int} {p : Nat} {v : Int} (h : zsq st st2) (hp : p < 49) : zsq (zrea st p v) (zrea st2 p v) := by
  intro j hj
  unfold zrea
  rw [h p hp, h j hj]
theorem zq_c {D : zBk} {c r p1 p2 : Nat} {v : Int} {st st2 : Nat → Int} (h : zsq st st2) (hc : c ≤ 5) (hr : r ≤ 5) (h1 : p1 ≤ c) (h2 : p2 ≤ r) : zsq (zq D c r p1 p2 v st) (zq D c r p1 p2 v st2) := by
  have g1 : zsq (zq1 D c p1 p2 v st) (zq1 D c p1 p2 v st2) := by
    unfold zq1
    by_cases e : p1 < c ∧ zlk (zn1 D p1) (zlr D c p1 p2) = 0
    · rw [if_pos e, if_pos e]; exact zrea_c h (by omega)
    · rw [if_neg e, if_neg e]; exact h
  have g2 : zsq (zq2 D c r p1 p2 v (zq1 D c p1 p2 v st)) (zq2 D c r p1 p2 v (zq1 D c p1 p2 v st2)) := by
    unfold zq2
    by_cases e : p2 < r ∧ zlk (zn2 D c p2) (zlr D c p1 p2) = 0
    · rw [if_pos e, if_pos e]; exact zrea_c g1 (by omega)
    · rw [if_neg e, if_neg e]; exact g1
  unfold zq zq3
  by_cases e : p1 < c ∧ p2 < r ∧ zlk (fun x => zn1 D p1 x + zn2 D c p2 x) (zlr D c p1 p2) = 0
  · rw [if_pos e, if_pos e]; exact zrea_c g2 (by omega)
  · rw [if_neg e, if_neg e]; exact g2
theorem zcel_c {D : zBk} {c r p1 p2 : Nat} {st st2 : Nat → Int} (h : zsq st st2) (hc : c ≤ 5) (hr : r ≤ 5) (h1 : p1 ≤ c) (h2 : p2 ≤ r) : zsq (zcel D c r p1 p2 st) (zcel D c r p1 p2 st2) := by
  unfold zcel
  rw [h _ (show 7 * p1 + p2 < 49 by omega)]
  by_cases e : st2 (7 * p1 + p2) = -6
  · rw [if_pos e, if_pos e]; exact h
  · rw [if_neg e, if_neg e]; exact zq_c h hc hr h1 h2
theorem zcer_c {D : zBk} {c r p1 : Nat} {st st2 : Nat → Int} (h : zsq st st2) (hc : c ≤ 5) (hr : r ≤ 5) (h1 : p1 ≤ c) : ∀ k, k ≤ r + 1 → zsq (zcer D c r p1 k st) (zcer D c r p1 k st2)
  | 0, _ => h
  | k + 1, hk => zcel_c (zcer_c h hc hr h1 k (by omega)) hc hr h1 (by omega)
theorem zces_c {D : zBk} {c r : Nat} {st st2 : Nat → Int} (h : zsq st st2) (hc : c ≤ 5) (hr : r ≤ 5) : ∀ k, k ≤ c + 1 → zsq (zces D c r k st) (zces D c r k st2)
  | 0, _ => h
  | k + 1, hk => zcer_c (zces_c h hc hr k (by omega)) hc hr (by omega) _ (Nat.le_refl _)
