/-! one order as it stands on the pad: what is meant -/
/-- the sheet of a sign -/
def zord (D : zBk) (i : Nat) : Nat := (D 9 i - 48).toNat
theorem zb_two : ∀ d : Nat, d < 6 → 2 ^ d < 64 := by decide
theorem zb_cut {a d : Nat} (ha : a < 64) (hd : d < 6) {x : Nat} (hx : x < 6) : (a - (a &&& 2 ^ d)).testBit x = (a.testBit x && !decide (d = x)) := by
  rw [zb_dif a ha _ (zb_two d hd) x hx, Nat.testBit_two_pow]
theorem zb_cut64 {a d : Nat} (ha : a < 64) : a - (a &&& 2 ^ d) < 64 := by omega
theorem zpc_cut : ∀ a : Nat, a < 64 → ∀ d : Nat, d < 6 → a.testBit d = true → zpc (a - (a &&& 2 ^ d)) = zpc a - 1 := by decide +kernel
/-- one order -/
theorem zfo_one {D : zBk} : ∀ k left i, left < 64 → zfo D false k left (-6) i = -6 →
    (k : Int) ≤ zpc left ∧ (∀ j, i ≤ j → j < i + k → 48 ≤ D 9 j ∧ D 9 j ≤ 53 ∧ left.testBit (zord D j) = true) ∧ (∀ j j', i ≤ j → j < j' → j' < i + k → zord D j ≠ zord D j') ∧ zN D ≠ 0
  | 0, left, i, h64, h => by
    have hp := zpc_b left
    simp only [zfo] at h
    refine ⟨by omega, fun j h1 h2 => by omega, fun j j' h1 h2 h3 => by omega, ?_⟩
    intro e
    rw [if_neg (by decide), if_pos e] at h
    omega
  | k + 1, left, i, h64, h => by
    simp only [zfo] at h
    rw [if_neg (fun z => by have := z.2.1; cases this)] at h
    by_cases hc : 48 ≤ D 9 i ∧ D 9 i ≤ 53 ∧ left.testBit (D 9 i - 48).toNat = true
    · rw [if_pos hc] at h
      have ho : zord D i < 6 := by unfold zord; omega
      have hb : left.testBit (zord D i) = true := hc.2.2
      have ih := zfo_one k _ (i + 1) (zb_cut64 h64) h
      have hq : ∀ j, i + 1 ≤ j → j < i + 1 + k → 48 ≤ D 9 j ∧ D 9 j ≤ 53 ∧ left.testBit (zord D j) = true ∧ zord D i ≠ zord D j := by
        intro j h1 h2
        have h3 := ih.2.1 j h1 h2
        have hj : zord D j < 6 := by unfold zord; omega
        have h4 := h3.2.2
        rw [show (D 9 i - 48).toNat = zord D i from rfl, zb_cut h64 ho hj, Bool.and_eq_true, Bool.not_eq_true', decide_eq_false_iff_not] at h4
        exact ⟨h3.1, h3.2.1, h4.1, h4.2⟩
      have hz := zpc_cut left h64 _ ho hb
      refine ⟨?_, ?_, ?_, ih.2.2.2⟩
      · have := ih.1
        rw [show (D 9 i - 48).toNat = zord D i from rfl, hz] at this
        omega
      · intro j h1 h2
        by_cases e : j = i
        · subst e; exact ⟨hc.1, hc.2.1, hb⟩
        · have := hq j (by omega) (by omega)
          exact ⟨this.1, this.2.1, this.2.2.1⟩
      · intro j j' h1 h2 h3
        by_cases e : j = i
        · subst e; exact (hq j' (by omega) (by omega)).2.2.2
        · exact ih.2.2.1 j j' (by omega) h2 (by omega)
    · rw [if_neg hc] at h
      omega
/-- the pad is one order -/
def zOrd (D : zBk) : Prop := (0 < zN D ∧ zN D ≤ 6) ∧ (∀ i, i < zN D → D 9 i = 48 + (zord D i : Int) ∧ zord D i < 6 ∧ 0 < D 4 (zord D i)) ∧ ∀ j j', j < j' → j' < zN D → zord D j ≠ zord D j'
theorem zOrd_of {D : zBk} (h : zflt D 2 = -6) : zOrd D := by
  have h1 : zfo D false (zN D) (zthD D) (-6) 0 = -6 := by
    unfold zflt at h
    rw [if_neg (by decide), if_neg (by decide), if_pos rfl] at h
    exact h
  have h2 := zfo_one _ _ _ (zthD_64 D) h1
  have hp := zpc_b (zthD D)
  refine ⟨⟨by have := h2.2.2.2; omega, by have := h2.1; omega⟩, fun i hi => ?_, fun j j' h3 h4 => h2.2.2.1 j j' (by omega) h3 (by omega)⟩
  have h3 := h2.2.1 i (by omega) (by omega)
  have h4 : zord D i < 6 := by unfold zord; omega
  refine ⟨by unfold zord; omega, h4, ?_⟩
  have h5 := h3.2.2
  rw [zthD_bit h4] at h5
  exact of_decide_eq_true h5
/-- the case, when the first k of the order are printed -/
def zwk (D : zBk) : Nat → (Nat → Int)
  | 0 => D 5
  | k + 1 => zls (zwk D k) (zbx D (zord D k) 0)
theorem zwk_b {D : zBk} (hW : zWF D) {x : Nat} (hx : x < 6) : ∀ k, 0 ≤ zwk D k x ∧ zwk D k x ≤ 99
  | 0 => by have := hW.2.1 x hx; simp only [zwk]; omega
  | k + 1 => by simp only [zwk]; exact zls_b (zwk_b hW hx k)
/-- how many are too few at a place of the order -/
def zlkk (D : zBk) (k x : Nat) : Int := max 0 (znd D (zord D k) 0 x - zwk D k x)
theorem zlkk_b {D : zBk} (hW : zWF D) {k x : Nat} (hk : zord D k < 6) (hx : x < 6) : 0 ≤ zlkk D k x ∧ zlkk D k x ≤ 30 := by
  have h1 := znd_b (ch := 0) x hW hk
  have h2 := zwk_b hW hx k
  unfold zlkk
  omega
def zlks (D : zBk) (k : Nat) : Int := zfst (fun x => decide (0 < zlkk D k x)) 0 6
def zjp (D : zBk) : Int := zfst (fun k => decide (zlks D k ≠ -6)) 0 (zN D)
def zjv (D : zBk) (w : Int) : Int := if zjp D = -6 then -6 else if w = 0 then zjp D else if w = 1 then zlks D (zjp D).toNat else zlkk D (zjp D).toNat (zlks D (zjp D).toNat).toNat
def zA_judge (D : zBk) (w : Int) : Int := if 0 ≤ w ∧ w ≤ 2 then (if zflt D 2 = -6 then zjv D w else -5) else -2
/-! loans -/
def zgr (D : zBk) (x : Nat) : Nat → Int
  | 0 => 0
  | k + 1 => max (zgr D x k) (zlkk D k x)
def zla (D : zBk) (x : Nat) (lv : Int) : Nat → Int
  | 0 => -6
  | k + 1 => if lv ≤ zlkk D k x then (k : Int) else zla D x lv k
def zlc (D : zBk) (x : Nat) (lv : Int) : Nat → Int
  | 0 => 0
  | k + 1 => if lv ≤ zlkk D k x then zlc D x lv k + (D 6 x + min (D 8 0) (if zla D x lv k = -6 then D 8 0 else ((k : Int) - zla D x lv k - 1) * D 6 x)) else zlc D x lv k
theorem zla_b (D : zBk) (x : Nat) (lv : Int) : ∀ k, zla D x lv k = -6 ∨ (0 ≤ zla D x lv k ∧ zla D x lv k < k)
  | 0 => Or.inl rfl
  | k + 1 => by
    have h := zla_b D x lv k
    simp only [zla]
    split <;> omega
theorem zgr_b {D : zBk} (hW : zWF D) {x : Nat} (hx : x < 6) : ∀ k, (∀ j, j < k → zord D j < 6) → 0 ≤ zgr D x k ∧ zgr D x k ≤ 30
  | 0, _ => by simp [zgr]
  | k + 1, h => by
    have h1 := zgr_b hW hx k (fun j hj => h j (by omega))
    have h2 := zlkk_b hW (h k (by omega)) hx
    simp only [zgr]
    omega
def zco (D : zBk) (x : Nat) : Int := zsum (fun l => zlc D x ((l + 1 : Nat) : Int) (zN D)) (zgr D x (zN D)).toNat
def zA_loans (D : zBk) (x : Int) : Int := if -1 ≤ x ∧ x ≤ 5 then (if zflt D 2 = -6 then (if x < 0 then zsum (fun s => zco D s) 6 else zco D x.toNat) else -5) else -1
/-! the lead -/
/-- broken of the sheets from a on, ahead of place i -/
def zgn (D : zBk) (a : Nat) : Nat → Nat → Int
  | 0, _ => 0
  | i + 1, x => zgn D a i x + if a ≤ i ∧ zbx D (zord D i) 0 = (x : Int) then 1 else 0
/-- wanted of each sort by the sheets from a on, ahead of place i -/
def zwd (D : zBk) (a : Nat) : Nat → Nat → Int
  | 0, _ => 0
  | i + 1, x => if a ≤ i then max (zwd D a i x) (znd D (zord D i) 0 x + zgn D a i x) else zwd D a i x
def zwnt (D : zBk) (a x : Nat) : Int := zwd D a (zN D) x
theorem zgn_lo {D : zBk} {a : Nat} (x : Nat) : ∀ i, i ≤ a → zgn D a i x = 0
  | 0, _ => rfl
  | i + 1, h => by
    simp only [zgn]
    rw [zgn_lo x i (by omega), if_neg (by omega)]
    rfl
theorem zwd_lo {D : zBk} {a : Nat} (x : Nat) : ∀ i, i ≤ a → zwd D a i x = 0
  | 0, _ => rfl
  | i + 1, h => by
    simp only [zwd]
    rw [if_neg (by omega)]
    exact zwd_lo x i (by omega)
theorem zgn_b (D : zBk) (a x : Nat) : ∀ i, 0 ≤ zgn D a i x ∧ zgn D a i x ≤ i
  | 0 => by simp [zgn]
  | i + 1 => by
    have := zgn_b D a x i
    simp only [zgn]
    split <;> omega
theorem zwd_b {D : zBk} (hW : zWF D) (a : Nat) {x : Nat} : ∀ i, (∀ j, j < i → zord D j < 6) → 0 ≤ zwd D a i x ∧ zwd D a i x ≤ 30 + i
  | 0, _ => by simp [zwd]
  | i + 1, h => by
    have h1 := zwd_b hW a (x := x) i (fun j hj => h j (by omega))
    have h2 := zgn_b D a x i
    have h3 := znd_b (ch := 0) x hW (h i (by omega))
    simp only [zwd]
    split <;> omega
def zmpr (D : zBk) : Nat → Nat → Int
  | 0, _ => -6
  | k + 1, i => if zsum (zwnt D i) 6 ≤ zsum (D 5) 6 then (i : Int) else if 0 < zlk (znd D (zord D i) 0) (zwk D i) then -6 else zmpr D k (i + 1)
def zmp (D : zBk) : Int := zmpr D (zN D + 1) 0
def zA_melt (D : zBk) (x : Int) : Int := if -1 ≤ x ∧ x ≤ 5 then (if zflt D 2 = -6 then (if x < 0 ∨ zmp D = -6 then zmp D else if x = 0 then zsum (D 5) 6 - zsum (zwnt D (zmp D).toNat) 6 + zwnt D (zmp D).toNat 0 else zwnt D (zmp D).toNat x.toNat) else -5) else -1
theorem zsumC {c : Int} {f : Nat → Int} : ∀ k, (∀ x, x < k → 0 ≤ f x ∧ f x ≤ c) → 0 ≤ zsum f k ∧ zsum f k ≤ c * k
  | 0, _ => by simp [zsum]
  | k + 1, h => by
    have h1 := zsumC k (fun x hx => h x (by omega))
    have h2 := h k (by omega)
    simp only [zsum]
    rw [Int.natCast_add, Int.mul_add]
    omega
theorem zD5_b {D : zBk} (hW : zWF D) : 0 ≤ zsum (D 5) 6 ∧ zsum (D 5) 6 ≤ 594 := by
  have := zsumC (c := 99) (f := D 5) 6 (fun x hx => by have := hW.2.1 x hx; omega)
  omega
theorem zwnt_b {D : zBk} (hW : zWF D) (hO : zOrd D) (a x : Nat) : 0 ≤ zwnt D a x ∧ zwnt D a x ≤ 36 := by
  have h1 := zwd_b hW a (x := x) (zN D) (fun j hj => (hO.2.1 j hj).2.1)
  have := hO.1
  unfold zwnt
  omega
theorem zwns_b {D : zBk} (hW : zWF D) (hO : zOrd D) (a : Nat) : 0 ≤ zsum (zwnt D a) 6 ∧ zsum (zwnt D a) 6 ≤ 216 := by
  have := zsumC (c := 36) (f := zwnt D a) 6 (fun x hx => zwnt_b hW hO a x)
  omega
theorem zwns_0 {D : zBk} {a : Nat} (h : zN D ≤ a) : zsum (zwnt D a) 6 = 0 := by
  have hz := zsum_congr (f := zwnt D a) (g := fun _ => 0) 6 (fun x hx => zwd_lo x _ h)
  rw [hz]
  rfl
theorem zmpr_b (D : zBk) : ∀ k i, zmpr D k i = -6 ∨ ((i : Int) ≤ zmpr D k i ∧ zmpr D k i < i + k)
  | 0, _ => Or.inl rfl
  | k + 1, i => by
    have h := zmpr_b D k (i + 1)
    simp only [zmpr]
    split
    · omega
    · split
      · exact Or.inl rfl
      · omega
