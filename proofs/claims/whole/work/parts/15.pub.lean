/-! what the calls mean, I: faults, words, sheets -/
/-- the first index from i on, of k, at which p holds; -6: at none -/
def zfst (p : Nat → Bool) : Nat → Nat → Int
  | _, 0 => -6
  | i, k + 1 => if p i = true then (i : Int) else zfst p (i + 1) k
theorem zfst_in {p : Nat → Bool} {i N : Nat} (h : i < N) : zfst p i (N - i) = if p i = true then (i : Int) else zfst p (i + 1) (N - (i + 1)) := by
  rw [show N - i = (N - (i + 1)) + 1 by omega]
  rfl
theorem zfst_hit {p : Nat → Bool} {i N : Nat} (h : i < N) (hp : p i = true) : zfst p i (N - i) = (i : Int) := by rw [zfst_in h, if_pos hp]
theorem zfst_go {p : Nat → Bool} {i N : Nat} (h : i < N) (hp : ¬ p i = true) : zfst p i (N - i) = zfst p (i + 1) (N - (i + 1)) := by rw [zfst_in h, if_neg hp]
theorem zfst_end {p : Nat → Bool} {N : Nat} : zfst p N (N - N) = -6 := by rw [Nat.sub_self]; rfl
theorem zfst_b (p : Nat → Bool) : ∀ k i, zfst p i k = -6 ∨ ((i : Int) ≤ zfst p i k ∧ zfst p i k < i + k ∧ p (zfst p i k).toNat = true ∧ ∀ j : Nat, i ≤ j → (j : Int) < zfst p i k → ¬ p j = true)
  | 0, i => Or.inl rfl
  | k + 1, i => by
    simp only [zfst]
    by_cases h : p i = true
    · rw [if_pos h]
      exact Or.inr ⟨by omega, by omega, by rw [Int.toNat_natCast]; exact h, fun j h1 h2 => by omega⟩
    · rw [if_neg h]
      rcases zfst_b p k (i + 1) with h1 | ⟨h1, h2, h3, h4⟩
      · exact Or.inl h1
      · exact Or.inr ⟨by omega, by omega, h3, fun j h5 h6 => by
          by_cases hj : j = i
          · subst hj; exact h
          · exact h4 j (by omega) h6⟩
theorem zfst_none (p : Nat → Bool) : ∀ k i, zfst p i k = -6 → ∀ j, i ≤ j → j < i + k → ¬ p j = true
  | 0, i, _, j, h1, h2 => by omega
  | k + 1, i, h, j, h1, h2 => by
    simp only [zfst] at h
    by_cases hp : p i = true
    · rw [if_pos hp] at h
      omega
    · rw [if_neg hp] at h
      by_cases hj : j = i
      · subst hj; exact hp
      · exact zfst_none p k (i + 1) h j (by omega) (by omega)
theorem zfst_is {p : Nat → Bool} {n k : Nat} (hk : k < n) (hp : p k = true) (hl : ∀ j, j < k → ¬ p j = true) : zfst p 0 n = (k : Int) := by
  rcases zfst_b p n 0 with h | ⟨h1, h2, h3, h4⟩
  · exact absurd hp (zfst_none p n 0 h k (by omega) (by omega))
  · obtain ⟨v, hv⟩ : ∃ v : Nat, zfst p 0 n = (v : Int) := ⟨(zfst p 0 n).toNat, by omega⟩
    rw [hv] at h3 h4 ⊢
    rw [Int.toNat_natCast] at h3
    by_cases h5 : v < k
    · exact absurd h3 (hl v h5)
    · by_cases h6 : k < v
      · exact absurd hp (h4 k (by omega) (by omega))
      · omega
theorem zfst_no {p : Nat → Bool} {n : Nat} (hl : ∀ j, j < n → ¬ p j = true) : zfst p 0 n = -6 := by
  rcases zfst_b p n 0 with h | ⟨h1, h2, h3, h4⟩
  · exact h
  · exact absurd h3 (hl _ (by omega))
/-- how many signs -/
def zN (D : zBk) : Nat := (D 10 0).toNat
theorem zN_eq {D : zBk} (hW : zWF D) : D 10 0 = (zN D : Int) ∧ zN D ≤ 14 := by
  have := hW.2.2
  unfold zN
  omega
/-- a sign that can not stand there: as a word, as a sheet -/
def zf1p (D : zBk) (lo hi : Int) (most : Nat) (i : Nat) : Bool := decide (most ≤ i ∨ ¬ (lo ≤ D 9 i ∧ D 9 i ≤ hi))
def zf1 (D : zBk) (lo hi : Int) (most : Nat) : Int := if zfst (zf1p D lo hi most) 0 (zN D) ≠ -6 then zfst (zf1p D lo hi most) 0 (zN D) else if zN D = 0 then 0 else -6
/-- as one order, as two rows: what is free, where the colon stands -/
def zfo (D : zBk) (two : Bool) : Nat → Nat → Int → Nat → Int
  | 0, _, colon, _ => if two = true then (if colon < 0 ∨ colon = (zN D : Int) - 1 then (zN D : Int) else -6) else if zN D = 0 then (zN D : Int) else -6
  | k + 1, left, colon, i => if D 9 i = 58 ∧ two = true ∧ colon < 0 ∧ 0 < i then zfo D two k left (i : Int) (i + 1)
      else if 48 ≤ D 9 i ∧ D 9 i ≤ 53 ∧ left.testBit (D 9 i - 48).toNat = true then zfo D two k (left - (left &&& 2 ^ (D 9 i - 48).toNat)) colon (i + 1) else (i : Int)
def zthD (D : zBk) : Nat := zth (D 4) 6
theorem zthD_64 (D : zBk) : zthD D < 64 := zth_64 _ (Nat.le_refl 6)
def zflt (D : zBk) (how : Int) : Int := if how = 0 then zf1 D 97 102 5 else if how = 1 then zf1 D 48 57 6 else if how = 2 then zfo D false (zN D) (zthD D) (-6) 0 else if how = 3 then zfo D true (zN D) (zthD D) (-6) 0 else -2
/-- one number of the book; one row of it -/
def zset (D : zBk) (t k : Nat) (v : Int) : zBk := fun t' k' => if t' = t ∧ k' = k then v else D t' k'
def zA_say (D : zBk) (a : Int) : Int := if 33 ≤ a ∧ a ≤ 126 then (if D 10 0 < 14 then D 10 0 + 1 else -4) else -2
def zU_say (D : zBk) (a : Int) : zBk := if (33 ≤ a ∧ a ≤ 126) ∧ D 10 0 < 14 then zset (zset D 9 (zN D) a) 10 0 (D 10 0 + 1) else D
def zU_wipe (D : zBk) : zBk := zset D 10 0 0
def zA_word (D : zBk) (w : Int) : Int := if 0 ≤ w ∧ w ≤ 9 then (if zflt D 0 = -6 then D 10 0 else -5) else -1
def zU_word (D : zBk) (w : Int) : zBk := if (0 ≤ w ∧ w ≤ 9) ∧ zflt D 0 = -6 then (fun t k => if t = 10 ∧ k = 0 then 0 else if t = 1 ∧ k = w.toNat then D 10 0 else if t = 0 ∧ 5 * w.toNat ≤ k ∧ k < 5 * w.toNat + zN D then D 9 (k - 5 * w.toNat) - 97 else D t k) else D
def zA_sheet (D : zBk) (s : Int) : Int := if 0 ≤ s ∧ s ≤ 5 then (if zflt D 1 = -6 then D 10 0 else -5) else -1
def zU_sheet (D : zBk) (s : Int) : zBk := if (0 ≤ s ∧ s ≤ 5) ∧ zflt D 1 = -6 then (fun t k => if t = 10 ∧ k = 0 then 0 else if t = 4 ∧ k = s.toNat then D 10 0 else if t = 3 ∧ 6 * s.toNat ≤ k ∧ k < 6 * s.toNat + zN D then D 9 (k - 6 * s.toNat) - 48 else D t k) else D
def zA_take (D : zBk) (s : Int) : Int := if 0 ≤ s ∧ s ≤ 5 then D 4 s.toNat else -1
def zU_take (D : zBk) (s : Int) : zBk := if 0 ≤ s ∧ s ≤ 5 then zset D 4 s.toNat 0 else D
def zA_stand (D : zBk) (w o : Int) : Int := if 0 ≤ w ∧ w ≤ 9 then (if (-1 ≤ o ∧ o ≤ 9) ∧ o ≠ w then D 2 w.toNat else -2) else -1
def zU_stand (D : zBk) (w o : Int) : zBk := if (0 ≤ w ∧ w ≤ 9) ∧ (-1 ≤ o ∧ o ≤ 9) ∧ o ≠ w then zset D 2 w.toNat (if o < 0 then -6 else o) else D
def zA_lay (D : zBk) (s v : Int) : Int := if 0 ≤ s ∧ s ≤ 5 then (if 0 ≤ v ∧ v ≤ 99 then D 5 s.toNat else -2) else -1
def zU_lay (D : zBk) (s v : Int) : zBk := if (0 ≤ s ∧ s ≤ 5) ∧ 0 ≤ v ∧ v ≤ 99 then zset D 5 s.toNat v else D
def zA_set (D : zBk) (w v : Int) : Int := if w = 0 then (if 0 ≤ v ∧ v ≤ 3 then D 8 1 else -2) else if w = 1 then (if 0 ≤ v ∧ v ≤ 99 then D 8 0 else -2) else if 10 ≤ w ∧ w ≤ 15 then (if 0 ≤ v ∧ v ≤ 99 then D 6 (w - 10).toNat else -2) else -2
def zU_set (D : zBk) (w v : Int) : zBk := if w = 0 then (if 0 ≤ v ∧ v ≤ 3 then zset D 8 1 v else D) else if w = 1 then (if 0 ≤ v ∧ v ≤ 99 then zset D 8 0 v else D) else if 10 ≤ w ∧ w ≤ 15 then (if 0 ≤ v ∧ v ≤ 99 then zset D 6 (w - 10).toNat v else D) else D
def zA_needs (D : zBk) (s x : Int) : Int := if (0 ≤ s ∧ s ≤ 5) ∧ -1 ≤ x ∧ x ≤ 5 then (if x < 0 then zbx D s.toNat 0 else znd D s.toNat 0 x.toNat) else -1
def zA_seen (D : zBk) (s v : Int) : Int := if 0 ≤ s ∧ s ≤ 5 then (if -1 ≤ v ∧ v ≤ 30 then D 7 s.toNat else -2) else -1
def zU_seen (D : zBk) (s v : Int) : zBk := if (0 ≤ s ∧ s ≤ 5) ∧ -1 ≤ v ∧ v ≤ 30 then zset D 7 s.toNat (if v < 0 then -6 else v) else D
/-- could the one word be meant by the other, these sorts upside down: letter by letter -/
def zcm (D : zBk) (w o so : Nat) : Nat → Bool
  | 0 => true
  | k + 1 => zcm D w o so k && (decide (D 0 (5 * w + k) = D 0 (5 * o + k)) || (so.testBit (D 0 (5 * w + k)).toNat && so.testBit (D 0 (5 * o + k)).toNat))
def zsm (D : zBk) (w o : Nat) : Nat → Bool
  | 0 => true
  | k + 1 => zsm D w o k && decide (D 0 (5 * w + k) = D 0 (5 * o + k))
def zmeant (D : zBk) (w o so : Nat) : Bool := decide (D 1 w = D 1 o) && (zcm D w o so (D 1 w).toNat && !zsm D w o (D 1 w).toNat)
/-- KNOWN: no other of the ten could be meant -/
def zknown (D : zBk) (w so : Nat) : Nat → Bool
  | 0 => true
  | k + 1 => zknown D w so k && !zmeant D w k so
def zkof (D : zBk) (s so : Nat) : Nat → Int
  | 0 => 0
  | k + 1 => zkof D s so k + if zknown D (D 3 (6 * s + k)).toNat so 10 = true then 1 else 0
def zA_known (D : zBk) (w so : Int) : Int := if 0 ≤ w ∧ w ≤ 9 then (if 0 ≤ so ∧ so ≤ 63 then (if zknown D w.toNat so.toNat 10 = true then 1 else 0) else -2) else -1
def zA_knownOf (D : zBk) (s so : Int) : Int := if 0 ≤ s ∧ s ≤ 5 then (if 0 ≤ so ∧ so ≤ 63 then zkof D s.toNat so.toNat (D 4 s.toNat).toNat else -2) else -1
def zA_told (D : zBk) (w : Int) : Int := if w = 0 then D 10 0 else if w = 1 then (zthD D : Int) else if w = 2 then D 8 1 else if w = 3 then D 8 0 else if 10 ≤ w ∧ w ≤ 15 then D 6 (w - 10).toNat else if 20 ≤ w ∧ w ≤ 25 then D 5 (w - 20).toNat else if 30 ≤ w ∧ w ≤ 39 then D 1 (w - 30).toNat else if 40 ≤ w ∧ w ≤ 49 then D 2 (w - 40).toNat else if 50 ≤ w ∧ w ≤ 55 then D 4 (w - 50).toNat else if 60 ≤ w ∧ w ≤ 65 then D 7 (w - 60).toNat else -2
/-- only places from a to b are changed -/
def zSame (a b : Nat) (μ μ' : zMem) : Prop := ∀ q, (q < a ∨ b < q) → μ' q = μ q
theorem zSame.rfl' {a b : Nat} {μ : zMem} : zSame a b μ μ := fun _ _ => rfl
theorem zSame.trans {a b : Nat} {μ μ1 μ2 : zMem} (h1 : zSame a b μ μ1) (h2 : zSame a b μ1 μ2) : zSame a b μ μ2 := fun q hq => (h2 q hq).trans (h1 q hq)
theorem zSame.wide {a b a' b' : Nat} {μ μ' : zMem} (h : zSame a b μ μ') (ha : a' ≤ a) (hb : b ≤ b') : zSame a' b' μ μ' := fun q hq => h q (by omega)
theorem zSame.row {a b q : Nat} {μ μ1 : zMem} {f : Nat → Int} (h : zSame a b μ μ1) (h1 : a ≤ q) (h2 : q ≤ b) : zSame a b μ (zrow μ1 q f) := fun q' hq => by rw [zrow_ne (by omega)]; exact h q' hq
theorem zSame.wr {a b q k : Nat} {v : Int} {μ μ1 : zMem} (h : zSame a b μ μ1) (h1 : a ≤ q) (h2 : q ≤ b) : zSame a b μ (zwr μ1 q k v) := fun q' hq => by rw [zwr_ne (by omega)]; exact h q' hq
theorem zSame.shp {a b : Nat} {D : zBk} {μ μ' : zMem} {p : Nat} (h : zSame a b μ μ') (hs : zShp p D μ) (hp : p + 16 < a) : zShp p D μ' := hs.row (fun q _ h2 => h q (Or.inl (by omega)))
theorem zSame.pad {a b : Nat} {D : zBk} {μ μ' : zMem} (h : zSame a b μ μ') (hs : zPad D μ) (hp : 20 < a) : zPad D μ' := by
  refine ⟨fun j hj => ?_, ?_⟩
  · rw [h 20 (Or.inl hp)]; exact hs.1 j hj
  · rw [h 18 (Or.inl (by omega))]; exact hs.2
/-- an Image at place b: nothing kept, or a book -/
def zIm (b : Nat) (k : Option zBk) (μ : zMem) : Prop := match k with
  | none => μ b 1 = 0
  | some K => μ b 1 = 1 ∧ zShp (b + 1) K μ ∧ zWF K
/-- what the class holds -/
def zRX (D : zBk) (K0 K1 : Option zBk) (μ : zMem) : Prop := zWF D ∧ zShp 1 D μ ∧ zPad D μ ∧ zIm 21 K0 μ ∧ zIm 39 K1 μ
theorem zIm.row {b : Nat} {k : Option zBk} {μ μ' : zMem} (h : zIm b k μ) (he : ∀ q, b ≤ q → q ≤ b + 17 → μ' q = μ q) : zIm b k μ' := by
  cases k with
  | none => show μ' b 1 = 0; rw [he b (by omega) (by omega)]; exact h
  | some K => exact ⟨by rw [he b (by omega) (by omega)]; exact h.1, h.2.1.row (fun q h1 h2 => he q (by omega) (by omega)), h.2.2⟩
theorem zSame.rx {a b : Nat} {D : zBk} {K0 K1 : Option zBk} {μ μ' : zMem} (h : zSame a b μ μ') (hR : zRX D K0 K1 μ) (ha : 56 < a) : zRX D K0 K1 μ' :=
  ⟨hR.1, h.shp hR.2.1 (by omega), h.pad hR.2.2.1 (by omega), hR.2.2.2.1.row (fun q h1 h2 => h q (Or.inl (by omega))), hR.2.2.2.2.row (fun q h1 h2 => h q (Or.inl (by omega)))⟩
