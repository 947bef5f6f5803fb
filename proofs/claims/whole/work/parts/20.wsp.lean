/-! orders of all sheets, by sets of sheets printed: what is meant -/
/-- the case, when the sheets below k of a set are printed -/
def zaf (D : zBk) (set : Nat) : Nat → (Nat → Int)
  | 0 => D 5
  | k + 1 => if set.testBit k = true then zls (zaf D set k) (zbx D k 0) else zaf D set k
theorem zls_b {f : Nat → Int} {v : Int} {x : Nat} (h : 0 ≤ f x ∧ f x ≤ 99) : 0 ≤ zls f v x ∧ zls f v x ≤ 99 := by
  unfold zls
  split <;> omega
theorem zls_n {f : Nat → Int} {v : Int} (h : v < 0) : zls f v = f := by
  funext j
  unfold zls
  rw [if_neg (by omega)]
theorem zls_congr {f g : Nat → Int} {v : Int} {x : Nat} (h : f x = g x) : zls f v x = zls g v x := by
  unfold zls
  rw [h]
theorem zaf_b {D : zBk} (hW : zWF D) (set : Nat) {x : Nat} (hx : x < 6) : ∀ k, 0 ≤ zaf D set k x ∧ zaf D set k x ≤ 99
  | 0 => by have := hW.2.1 x hx; simp only [zaf]; omega
  | k + 1 => by
    simp only [zaf]
    split
    · exact zls_b (zaf_b hW set hx k)
    · exact zaf_b hW set hx k
/-- may this sheet be the next -/
def zmy (D : zBk) (want : Nat → Int) (set s : Nat) : Bool := (zthD D).testBit s && !set.testBit s && (decide (want s = -6) || decide (zlk (znd D s 0) (zaf D set 6) = want s))
/-- how many orders from a set on, by what bigger sets have -/
def zwv (D : zBk) (want : Nat → Int) (a b : Int) (t : Nat → Int) (set : Nat) : Int :=
  if set = zthD D then 1 else if set &&& zthD D = set then zsum (fun s => if zmy D want set s = true ∧ ¬ ((s : Int) = b ∧ set.testBit a.toNat = false) then t (set ||| 2 ^ s) else 0) 6 else 0
def zwt (D : zBk) (want : Nat → Int) (a b : Int) : Nat → (Nat → Int)
  | 0 => fun _ => 0
  | k + 1 => fun j => if j = 63 - k then zwv D want a b (zwt D want a b k) (63 - k) else zwt D want a b k j
def zWay (D : zBk) (want : Nat → Int) (a b : Int) : Int := zwt D want a b 64 0
theorem zsum_congr {f g : Nat → Int} : ∀ k, (∀ x, x < k → f x = g x) → zsum f k = zsum g k
  | 0, _ => rfl
  | k + 1, h => by simp only [zsum]; rw [zsum_congr k (fun x hx => h x (by omega)), h k (by omega)]
theorem zwv_congr {D : zBk} {want : Nat → Int} {a b : Int} {t t' : Nat → Int} {set : Nat} (hs : set < 64) (h : ∀ j, set < j → j < 64 → t j = t' j) : zwv D want a b t set = zwv D want a b t' set := by
  unfold zwv
  split
  · rfl
  · split
    · refine zsum_congr 6 (fun s hs6 => ?_)
      by_cases hc : zmy D want set s = true ∧ ¬ ((s : Int) = b ∧ set.testBit a.toNat = false)
      · rw [if_pos hc, if_pos hc]
        have hb : set.testBit s = false := by
          have h1 := hc.1
          unfold zmy at h1
          simp only [Bool.and_eq_true, Bool.not_eq_true'] at h1
          exact h1.1.2
        exact h _ (zb_gt set hs s hs6 hb) (zb_lt64 set hs s hs6)
      · rw [if_neg hc, if_neg hc]
    · rfl
theorem zwt_top {D : zBk} {want : Nat → Int} {a b : Int} : ∀ k j, j + k < 64 → zwt D want a b k j = 0
  | 0, _, _ => rfl
  | k + 1, j, h => by
    simp only [zwt]
    rw [if_neg (by omega)]
    exact zwt_top k j (by omega)
theorem zwt_stable {D : zBk} {want : Nat → Int} {a b : Int} {k j : Nat} (h : 64 ≤ j + k) : ∀ n, k + n ≤ 64 → zwt D want a b (k + n) j = zwt D want a b k j
  | 0, _ => rfl
  | n + 1, hn => by
    rw [← zwt_stable h n (by omega), ← Nat.add_assoc]
    simp only [zwt]
    by_cases e : j = 63 - (k + n)
    · exfalso; omega
    · rw [if_neg e]
/-- the table's own equation -/
theorem zwt_eq {D : zBk} {want : Nat → Int} {a b : Int} {set : Nat} (hs : set < 64) : zwt D want a b 64 set = zwv D want a b (zwt D want a b 64) set := by
  have h1 : zwt D want a b 64 set = zwt D want a b (64 - set) set := by
    have := zwt_stable (D := D) (want := want) (a := a) (b := b) (k := 64 - set) (j := set) (by omega) set (by omega)
    rwa [show 64 - set + set = 64 by omega] at this
  have h2 : zwt D want a b (64 - set) set = zwv D want a b (zwt D want a b (63 - set)) set := by
    rw [show 64 - set = (63 - set) + 1 by omega]
    simp only [zwt]
    rw [if_pos (by omega), show 63 - (63 - set) = set by omega]
  rw [h1, h2]
  refine zwv_congr hs (fun j h3 h4 => ?_)
  have := zwt_stable (D := D) (want := want) (a := a) (b := b) (k := 63 - set) (j := j) (by omega) (set + 1) (by omega)
  rw [← this]
  congr 1
  omega
/-- the next sheet of the first order -/
def znx (D : zBk) (want t : Nat → Int) (set : Nat) : Int := zfst (fun s => zmy D want set s && decide (0 < t (set ||| 2 ^ s))) 0 6
def zlp (D : zBk) (want t : Nat → Int) (i : Int) : Nat → Nat → Nat → Int
  | 0, _, _ => -6
  | k + 1, place, set => if znx D want t set = -6 ∨ (place : Int) = i then znx D want t set else zlp D want t i k (place + 1) (set ||| 2 ^ (znx D want t set).toNat)
def zno : Nat → Int := fun _ => 0
def zA_orders (D : zBk) : Int := zWay D zno (-6) (-6)
def zA_first (D : zBk) (i : Int) : Int := zlp D zno (zwt D zno (-6) (-6) 64) i 6 0 0
def zA_fits (D : zBk) : Int := zWay D (D 7) (-6) (-6)
def zA_ahead (D : zBk) (a b : Int) : Int := if (0 ≤ a ∧ a ≤ 5 ∧ 0 < D 4 a.toNat) ∧ (0 ≤ b ∧ b ≤ 5 ∧ 0 < D 4 b.toNat) ∧ a ≠ b then (if zA_fits D = 0 then -5 else if zWay D (D 7) a b = zA_fits D then 1 else if zWay D (D 7) a b = 0 then 0 else 2) else -1
/-- how many bits -/
def zpc (n : Nat) : Int := zsum (fun s => if n.testBit s = true then 1 else 0) 6
theorem zpc_b (n : Nat) : 0 ≤ zpc n ∧ zpc n ≤ 6 := by
  have h : ∀ k, 0 ≤ zsum (fun s => if n.testBit s = true then (1 : Int) else 0) k ∧ zsum (fun s => if n.testBit s = true then (1 : Int) else 0) k ≤ k := by
    intro k
    induction k with
    | zero => simp [zsum]
    | succ k ih => simp only [zsum]; split <;> omega
  exact h 6
def zany (p : Nat → Bool) : Nat → Bool
  | 0 => false
  | k + 1 => zany p k || p k
theorem zany_iff {p : Nat → Bool} : ∀ k, (zany p k = true ↔ ∃ s, s < k ∧ p s = true)
  | 0 => by simp [zany]
  | k + 1 => by
    simp only [zany, Bool.or_eq_true]
    rw [zany_iff k]
    constructor
    · rintro (⟨s, h1, h2⟩ | h)
      · exact ⟨s, by omega, h2⟩
      · exact ⟨k, by omega, h⟩
    · rintro ⟨s, h1, h2⟩
      by_cases e : s = k
      · subst e; exact Or.inr h2
      · exact Or.inl ⟨s, by omega, h2⟩
/-- can a set be printed in some order, by what smaller sets (below k) can -/
def zrq (D : zBk) (r : Nat → Bool) (k j : Nat) : Bool := zany (fun s => j.testBit s && (decide (j - 2 ^ s < k) && (r (j - 2 ^ s) && zmy D zno (j - 2 ^ s) s))) 6
def zrc (D : zBk) : Nat → (Nat → Bool)
  | 0 => fun _ => false
  | k + 1 => fun j => if j = k then (decide (k = 0) || zrq D (zrc D k) k k) else zrc D k j
def zrch (D : zBk) (j : Nat) : Bool := zrc D (j + 1) j
theorem zrc_stable {D : zBk} {j k : Nat} (h : j < k) : ∀ n, zrc D (k + n) j = zrc D k j
  | 0 => rfl
  | n + 1 => by
    rw [← zrc_stable h n, ← Nat.add_assoc]
    simp only [zrc]
    rw [if_neg (by omega)]
theorem zrc_ch {D : zBk} {j k : Nat} (h : j < k) : zrc D k j = zrch D j := by
  unfold zrch
  have := zrc_stable (D := D) (k := j + 1) (j := j) (by omega) (k - (j + 1))
  rwa [show j + 1 + (k - (j + 1)) = k by omega] at this
theorem zrq_congr {D : zBk} {r r' : Nat → Bool} {k j : Nat} (h : ∀ i, i < k → r i = r' i) : zrq D r k j = zrq D r' k j := by
  have key : ∀ n, zany (fun s => j.testBit s && (decide (j - 2 ^ s < k) && (r (j - 2 ^ s) && zmy D zno (j - 2 ^ s) s))) n = zany (fun s => j.testBit s && (decide (j - 2 ^ s < k) && (r' (j - 2 ^ s) && zmy D zno (j - 2 ^ s) s))) n := by
    intro n
    induction n with
    | zero => rfl
    | succ n ih =>
      simp only [zany]
      rw [ih]
      by_cases e : j - 2 ^ n < k
      · rw [h _ e]
      · rw [decide_eq_false e]; simp
  exact key 6
theorem zrch_eq {D : zBk} (k : Nat) : zrch D k = (decide (k = 0) || zrq D (zrch D) k k) := by
  have : zrch D k = (decide (k = 0) || zrq D (zrc D k) k k) := by
    unfold zrch
    simp only [zrc]
    rw [if_pos trivial]
  rw [this, zrq_congr (fun i hi => zrc_ch hi)]
/-- MOST, as bits -/
def zbm (D : zBk) : Nat → Nat
  | 0 => 0
  | k + 1 => if zrch D k = true ∧ zpc (zbm D k) < zpc k then k else zbm D k
def zA_most (D : zBk) (w : Int) : Int := if 0 ≤ w ∧ w ≤ 1 then (if w = 0 then zpc (zbm D 64) else (zbm D 64 : Int)) else -2
theorem zbm_lt {D : zBk} : ∀ k, k ≤ 64 → zbm D k < 64
  | 0, _ => by simp [zbm]
  | k + 1, h => by
    simp only [zbm]
    split
    · omega
    · exact zbm_lt k (by omega)
theorem zb_dif : ∀ a : Nat, a < 64 → ∀ b : Nat, b < 64 → ∀ s : Nat, s < 6 → (a - (a &&& b)).testBit s = (a.testBit s && !b.testBit s) := by decide +kernel
theorem zb_sub0 : ∀ a : Nat, a < 64 → ∀ b : Nat, b < 64 → (a - (a &&& b) = 0 ↔ a &&& b = a) := by decide +kernel
theorem zb_min : ∀ a : Nat, a < 64 → ∀ s : Nat, s < 6 → a.testBit s = true → (a - 2 ^ s < a ∧ (a - 2 ^ s).testBit s = false ∧ (a - 2 ^ s) ||| 2 ^ s = a) := by decide +kernel
theorem zb_orr : ∀ a : Nat, a < 64 → ∀ s : Nat, s < 6 → a.testBit s = false → ((a ||| 2 ^ s).testBit s = true ∧ (a ||| 2 ^ s) - 2 ^ s = a) := by decide +kernel
theorem zb_orj : ∀ a : Nat, a < 64 → ∀ s : Nat, s < 6 → ∀ j : Nat, j < 6 → (a ||| 2 ^ s).testBit j = (a.testBit j || decide (j = s)) := by decide +kernel
/-! bitCount, step by step, of a number below 64 -/
def zc1_ (n : Nat) : Nat := (n / 2) &&& 1431655765
def zc2_ (n : Nat) : Nat := n - zc1_ n
def zc3_ (n : Nat) : Nat := (zc2_ n &&& 858993459) + ((zc2_ n / 4) &&& 858993459)
def zc4_ (n : Nat) : Nat := (zc3_ n + zc3_ n / 16) &&& 252645135
def zc5_ (n : Nat) : Nat := zc4_ n + zc4_ n / 256
def zc6_ (n : Nat) : Nat := zc5_ n + zc5_ n / 65536
theorem zbc_a : ∀ n : Nat, n < 64 → ((Int32.ofInt (n : Int)).toUInt32 >>> ((Int32.ofInt 1).toUInt32 &&& Int32.toUInt32 31)).toInt32 = Int32.ofInt ((n / 2 : Nat) : Int) := by decide +kernel
theorem zbc_b : ∀ n : Nat, n < 64 → Int32.ofInt ((n / 2 : Nat) : Int) &&& Int32.ofInt 1431655765 = Int32.ofInt ((zc1_ n : Nat) : Int) := by decide +kernel
theorem zbc_c : ∀ n : Nat, n < 64 → (n : Int) - (zc1_ n : Int) = ((zc2_ n : Nat) : Int) := by decide +kernel
theorem zbc_d : ∀ n : Nat, n < 64 → Int32.ofInt ((zc2_ n : Nat) : Int) &&& Int32.ofInt 858993459 = Int32.ofInt ((zc2_ n &&& 858993459 : Nat) : Int) := by decide +kernel
theorem zbc_e : ∀ n : Nat, n < 64 → ((Int32.ofInt ((zc2_ n : Nat) : Int)).toUInt32 >>> ((Int32.ofInt 2).toUInt32 &&& Int32.toUInt32 31)).toInt32 = Int32.ofInt ((zc2_ n / 4 : Nat) : Int) := by decide +kernel
theorem zbc_f : ∀ n : Nat, n < 64 → Int32.ofInt ((zc2_ n / 4 : Nat) : Int) &&& Int32.ofInt 858993459 = Int32.ofInt ((zc2_ n / 4 &&& 858993459 : Nat) : Int) := by decide +kernel
theorem zbc_g : ∀ n : Nat, n < 64 → ((Int32.ofInt ((zc3_ n : Nat) : Int)).toUInt32 >>> ((Int32.ofInt 4).toUInt32 &&& Int32.toUInt32 31)).toInt32 = Int32.ofInt ((zc3_ n / 16 : Nat) : Int) := by decide +kernel
theorem zbc_h : ∀ n : Nat, n < 64 → Int32.ofInt ((zc3_ n + zc3_ n / 16 : Nat) : Int) &&& Int32.ofInt 252645135 = Int32.ofInt ((zc4_ n : Nat) : Int) := by decide +kernel
theorem zbc_i : ∀ n : Nat, n < 64 → ((Int32.ofInt ((zc4_ n : Nat) : Int)).toUInt32 >>> ((Int32.ofInt 8).toUInt32 &&& Int32.toUInt32 31)).toInt32 = Int32.ofInt ((zc4_ n / 256 : Nat) : Int) := by decide +kernel
theorem zbc_j : ∀ n : Nat, n < 64 → ((Int32.ofInt ((zc5_ n : Nat) : Int)).toUInt32 >>> ((Int32.ofInt 16).toUInt32 &&& Int32.toUInt32 31)).toInt32 = Int32.ofInt ((zc5_ n / 65536 : Nat) : Int) := by decide +kernel
theorem zbc_k : ∀ n : Nat, n < 64 → Int32.ofInt ((zc6_ n : Nat) : Int) &&& Int32.ofInt 63 = Int32.ofInt (zpc n) := by decide +kernel
