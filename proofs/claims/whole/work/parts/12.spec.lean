/-! what is meant: the book D (0 letters, 1 lengths, 2 stand-ins, 3 pages, 4 sizes, 5 the case, 6 rents, 7 seen, 8 fee and law, 9 signs, 10 how many signs) -/
abbrev zBk : Type := Nat → Nat → Int
def zWF (D : zBk) : Prop :=
  (∀ w, w < 10 → 1 ≤ D 1 w ∧ D 1 w ≤ 5 ∧ -6 ≤ D 2 w ∧ D 2 w ≤ 9 ∧ (D 2 w < 0 → D 2 w = -6) ∧ ∀ i : Nat, (i : Int) < D 1 w → 0 ≤ D 0 (5 * w + i) ∧ D 0 (5 * w + i) ≤ 5) ∧
  (∀ s, s < 6 → 0 ≤ D 4 s ∧ D 4 s ≤ 6 ∧ 0 ≤ D 5 s ∧ D 5 s ≤ 99 ∧ 0 ≤ D 6 s ∧ D 6 s ≤ 99 ∧ -6 ≤ D 7 s ∧ D 7 s ≤ 30 ∧ (D 7 s < 0 → D 7 s = -6) ∧ ∀ i : Nat, (i : Int) < D 4 s → 0 ≤ D 3 (6 * s + i) ∧ D 3 (6 * s + i) ≤ 9) ∧
  0 ≤ D 8 0 ∧ D 8 0 ≤ 99 ∧ 0 ≤ D 8 1 ∧ D 8 1 ≤ 3 ∧ 0 ≤ D 10 0 ∧ D 10 0 ≤ 14 ∧ ∀ j, j < 14 → 0 ≤ D 9 j ∧ D 9 j ≤ 126
/-- a Shop at place b holds the book -/
def zShp (b : Nat) (D : zBk) (μ : zMem) : Prop :=
  (∀ w, w < 10 → μ (b + 8) w = D 1 w ∧ μ (b + 10) w = D 2 w ∧ ∀ i : Nat, (i : Int) < D 1 w → μ (b + 6) (5 * w + i) = D 0 (5 * w + i)) ∧
  (∀ s, s < 6 → μ (b + 14) s = D 4 s ∧ μ (b + 4) s = D 5 s ∧ μ (b + 2) (10 + s) = D 6 s ∧ μ (b + 16) s = D 7 s ∧ ∀ i : Nat, (i : Int) < D 4 s → μ (b + 12) (6 * s + i) = D 3 (6 * s + i)) ∧
  μ (b + 2) 1 = D 8 0 ∧ μ (b + 2) 0 = D 8 1
def zPad (D : zBk) (μ : zMem) : Prop := (∀ j, j < 14 → μ 20 j = D 9 j) ∧ μ 18 1 = D 10 0
/-- the word that is printed at a place of a sheet, with stand-ins at some places -/
def zwi (D : zBk) (s i ch : Nat) : Nat := if ch.testBit i = true then (D 2 (D 3 (6 * s + i)).toNat).toNat else (D 3 (6 * s + i)).toNat
def zcw (D : zBk) (w : Nat) : Nat → Nat → Int
  | 0, _ => 0
  | k + 1, x => zcw D w k x + if D 0 (5 * w + k) = (x : Int) then 1 else 0
def zcs (D : zBk) (s ch : Nat) : Nat → Nat → Int
  | 0, _ => 0
  | i + 1, x => zcs D s ch i x + zcw D (zwi D s i ch) (D 1 (zwi D s i ch)).toNat x
/-- NEEDS -/
def znd (D : zBk) (s ch x : Nat) : Int := zcs D s ch (D 4 s).toNat x
def zbst (law : Int) (nd : Nat → Int) : Nat → Int
  | 0 => -6
  | k + 1 => if 0 < nd k ∧ (zbst law nd k = -6 ∨ (law = 0 ∧ nd (zbst law nd k).toNat < nd k) ∨ (law ≠ 0 ∧ nd k < nd (zbst law nd k).toNat)) then (k : Int) else zbst law nd k
/-- the last letter of a word -/
def zll (D : zBk) (w : Nat) : Int := D 0 (5 * w + ((D 1 w).toNat - 1))
/-- BREAKS of a sheet that is there -/
def zbk (D : zBk) (s ch : Nat) : Int := if D 8 1 = 2 then D 0 (5 * zwi D s 0 ch) else if D 8 1 = 3 then zll D (zwi D s ((D 4 s).toNat - 1) ch) else zbst (D 8 1) (znd D s ch) 6
/-- each changed place has a stand-in -/
abbrev zokc (D : zBk) (s ch : Nat) : Prop := ch < 2 ^ (D 4 s).toNat ∧ ∀ i, i < (D 4 s).toNat → ch.testBit i = true → 0 ≤ D 2 (D 3 (6 * s + i)).toNat
def zbx (D : zBk) (s ch : Nat) : Int := if zokc D s ch ∧ 0 < D 4 s then zbk D s ch else -6
theorem zwi_lt {D : zBk} {s i ch : Nat} (hW : zWF D) (hs : s < 6) (hi : (i : Int) < D 4 s) : zwi D s i ch < 10 := by
  have h := (hW.2.1 s hs).2.2.2.2.2.2.2.2.2 i hi
  unfold zwi
  split
  · have h2 := hW.1 (D 3 (6 * s + i)).toNat (by omega)
    omega
  · omega
theorem zcw_b (D : zBk) (w x : Nat) : ∀ k, 0 ≤ zcw D w k x ∧ zcw D w k x ≤ k
  | 0 => by simp [zcw]
  | k + 1 => by
    have h := zcw_b D w x k
    simp only [zcw]
    split <;> omega
theorem zcs_b {D : zBk} {s ch x : Nat} (hW : zWF D) (hs : s < 6) : ∀ i : Nat, (i : Int) ≤ D 4 s → 0 ≤ zcs D s ch i x ∧ zcs D s ch i x ≤ 5 * i
  | 0, _ => by simp [zcs]
  | i + 1, h => by
    have h1 := zcs_b (ch := ch) (x := x) hW hs i (by omega)
    have hw := zwi_lt (ch := ch) hW hs (i := i) (by omega)
    have h2 := hW.1 _ hw
    have h3 := zcw_b D (zwi D s i ch) x (D 1 (zwi D s i ch)).toNat
    simp only [zcs]
    omega
theorem znd_b {D : zBk} {s ch : Nat} (x : Nat) (hW : zWF D) (hs : s < 6) : 0 ≤ znd D s ch x ∧ znd D s ch x ≤ 30 := by
  have h1 := (hW.2.1 s hs)
  have h := zcs_b (ch := ch) (x := x) hW hs (D 4 s).toNat (by omega)
  unfold znd
  omega
theorem zbst_b (law : Int) (nd : Nat → Int) : ∀ k, zbst law nd k = -6 ∨ (0 ≤ zbst law nd k ∧ zbst law nd k < k ∧ 0 < nd (zbst law nd k).toNat)
  | 0 => Or.inl rfl
  | k + 1 => by
    have h := zbst_b law nd k
    simp only [zbst]
    split
    next hc => right; refine ⟨by omega, by omega, ?_⟩; rw [Int.toNat_natCast]; exact hc.1
    next => rcases h with h | h
            · exact Or.inl h
            · exact Or.inr ⟨h.1, by omega, h.2.2⟩
theorem zbst_some (law : Int) (nd : Nat → Int) {x : Nat} (hx : 0 < nd x) : ∀ k, x < k → zbst law nd k ≠ -6
  | 0, h => by omega
  | k + 1, h => by
    simp only [zbst]
    split
    · omega
    next hc =>
      intro z
      by_cases hxk : x = k
      · subst hxk
        exact hc ⟨hx, Or.inl z⟩
      · exact zbst_some law nd hx k (by omega) z
theorem zcw_in (D : zBk) (w x : Nat) : ∀ k j, j < k → D 0 (5 * w + j) = (x : Int) → 0 < zcw D w k x
  | 0, j, h, _ => by omega
  | k + 1, j, h, hx => by
    have hb := zcw_b D w x k
    simp only [zcw]
    by_cases hj : j = k
    · subst hj
      rw [if_pos hx]
      omega
    · have := zcw_in D w x k j (by omega) hx
      split <;> omega
theorem zcs_in {D : zBk} {s ch x : Nat} (hW : zWF D) (hs : s < 6) : ∀ i j : Nat, (i : Int) ≤ D 4 s → j < i → 0 < zcw D (zwi D s j ch) (D 1 (zwi D s j ch)).toNat x → 0 < zcs D s ch i x
  | 0, j, _, h, _ => by omega
  | i + 1, j, hi, h, hx => by
    have h1 := zcs_b (ch := ch) (x := x) hW hs i (by omega)
    have h3 := zcw_b D (zwi D s i ch) x (D 1 (zwi D s i ch)).toNat
    simp only [zcs]
    by_cases hj : j = i
    · subst hj
      omega
    · have := zcs_in (ch := ch) (x := x) hW hs i j (by omega) (by omega) hx
      omega
/-- what a sheet that is there breaks is a sort that it needs -/
theorem zbk_b {D : zBk} {s : Nat} (ch : Nat) (hW : zWF D) (hs : s < 6) (h0 : 0 < D 4 s) : 0 ≤ zbk D s ch ∧ zbk D s ch ≤ 5 ∧ 0 < znd D s ch (zbk D s ch).toNat := by
  have hsz := hW.2.1 s hs
  have key : ∀ i j : Nat, (i : Int) < D 4 s → (j : Int) < D 1 (zwi D s i ch) → 0 ≤ D 0 (5 * zwi D s i ch + j) ∧ D 0 (5 * zwi D s i ch + j) ≤ 5 ∧ 0 < znd D s ch (D 0 (5 * zwi D s i ch + j)).toNat := by
    intro i j hi hj
    have hw := zwi_lt (ch := ch) hW hs hi
    have h1 := (hW.1 _ hw).2.2.2.2.2 j hj
    refine ⟨h1.1, h1.2, ?_⟩
    refine zcs_in hW hs _ i (by omega) (by omega) (zcw_in D _ _ _ j (by omega) (by omega))
  unfold zbk
  split
  · have := key 0 0 (by omega) (by have := hW.1 _ (zwi_lt (ch := ch) hW hs (i := 0) (by omega)); omega)
    exact this
  · split
    · have hw := hW.1 _ (zwi_lt (ch := ch) hW hs (i := (D 4 s).toNat - 1) (by omega))
      exact key ((D 4 s).toNat - 1) ((D 1 (zwi D s ((D 4 s).toNat - 1) ch)).toNat - 1) (by omega) (by omega)
    · have hw := hW.1 _ (zwi_lt (ch := ch) hW hs (i := 0) (by omega))
      have h2 := key 0 0 (by omega) (by omega)
      have h3 := zbst_some (D 8 1) (znd D s ch) h2.2.2 6 (by omega)
      rcases zbst_b (D 8 1) (znd D s ch) 6 with h4 | h4
      · exact absurd h4 h3
      · exact ⟨h4.1, by omega, h4.2.2⟩
theorem zbx_b {D : zBk} {s : Nat} (ch : Nat) (hW : zWF D) (hs : s < 6) : zbx D s ch = -6 ∨ (0 ≤ zbx D s ch ∧ zbx D s ch ≤ 5) := by
  unfold zbx
  split
  next h => have := zbk_b ch hW hs h.2; omega
  next => exact Or.inl rfl
theorem zokc_0 (D : zBk) (s : Nat) : zokc D s 0 := ⟨Nat.two_pow_pos _, fun i _ h => by simp at h⟩
theorem zbx_0 {D : zBk} {s : Nat} (h : 0 < D 4 s) : zbx D s 0 = zbk D s 0 := by unfold zbx; rw [if_pos ⟨zokc_0 D s, h⟩]
theorem zbx_n {D : zBk} {s : Nat} (h : ¬ 0 < D 4 s) : zbx D s 0 = -6 := by unfold zbx; rw [if_neg (fun z => h z.2)]
/-- one less of a sort, if there is one -/
def zls (f : Nat → Int) (x : Int) : Nat → Int := fun j => if (j : Int) = x ∧ 0 < f j then f j - 1 else f j
/-- how many are too few, of all sorts -/
def zlk (nd left : Nat → Int) : Int := zsum (fun x => max 0 (nd x - left x)) 6
/-! bits -/
theorem zb_shl : ∀ k : Nat, k < 6 → Int32.ofInt 1 <<< (Int32.ofInt (k : Int) &&& 31) = Int32.ofInt ((2 ^ k : Nat) : Int) := by decide +kernel
theorem zb_shr : ∀ b : Nat, b < 64 → ∀ k : Nat, k < 7 → Int32.ofInt (b : Int) >>> (Int32.ofInt (k : Int) &&& 31) = Int32.ofInt ((b / 2 ^ k : Nat) : Int) := by decide +kernel
theorem zb_and1 : ∀ b : Nat, b < 64 → Int32.ofInt (b : Int) &&& Int32.ofInt 1 = Int32.ofInt ((b % 2 : Nat) : Int) := by decide +kernel
theorem zb_bit : ∀ b : Nat, b < 64 → ∀ k : Nat, k < 6 → (b / 2 ^ k % 2 = 1 ↔ b.testBit k = true) := by decide +kernel
theorem zb_or : ∀ a : Nat, a < 64 → ∀ b : Nat, b < 64 → Int32.ofInt (a : Int) ||| Int32.ofInt (b : Int) = Int32.ofInt ((a ||| b : Nat) : Int) := by decide +kernel
theorem zb_and : ∀ a : Nat, a < 64 → ∀ b : Nat, b < 64 → Int32.ofInt (a : Int) &&& Int32.ofInt (b : Int) = Int32.ofInt ((a &&& b : Nat) : Int) := by decide +kernel
theorem zb_not : ∀ a : Nat, a < 64 → Int32.ofInt (a : Int) ^^^ Int32.ofInt (-1) = Int32.ofInt (-1 - (a : Int)) := by decide +kernel
theorem zb_andn : ∀ a : Nat, a < 64 → ∀ b : Nat, b < 64 → Int32.ofInt (a : Int) &&& Int32.ofInt (-1 - (b : Int)) = Int32.ofInt ((a - (a &&& b) : Nat) : Int) := by decide +kernel
theorem zb_lt64 : ∀ a : Nat, a < 64 → ∀ k : Nat, k < 6 → a ||| 2 ^ k < 64 := by decide +kernel
theorem zb_gt : ∀ a : Nat, a < 64 → ∀ k : Nat, k < 6 → a.testBit k = false → a < a ||| 2 ^ k := by decide +kernel
theorem zb_add : ∀ k : Nat, k < 6 → ∀ a : Nat, a < 2 ^ k → a ||| 2 ^ k = a + 2 ^ k := by decide +kernel
