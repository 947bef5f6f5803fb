/-! how the book changes: what stays well formed, what the class's memory then holds -/
theorem zWF_set2 {D : zBk} (hW : zWF D) {w : Nat} {v : Int} (hv : v = -6 ∨ (0 ≤ v ∧ v ≤ 9)) : zWF (zset D 2 w v) := by
  obtain ⟨h1, h2, h3⟩ := hW
  refine ⟨fun w' hw => ?_, fun s hs => ?_, ?_⟩
  · have h := h1 w' hw
    simp [zset]
    by_cases e : w' = w
    · rw [if_pos e]; exact ⟨by omega, by omega, by omega, by omega, by omega, h.2.2.2.2.2⟩
    · rw [if_neg e]; exact h
  · have h := h2 s hs
    simp [zset]
    exact h
  · simp [zset]
    exact h3
theorem zWF_set4 {D : zBk} (hW : zWF D) {s : Nat} : zWF (zset D 4 s 0) := by
  obtain ⟨h1, h2, h3⟩ := hW
  refine ⟨fun w' hw => ?_, fun s' hs => ?_, ?_⟩
  · have h := h1 w' hw
    simp [zset]
    exact h
  · have h := h2 s' hs
    simp [zset]
    by_cases e : s' = s
    · rw [if_pos e]; exact ⟨by omega, by omega, by omega, by omega, by omega, by omega, by omega, by omega, by omega, fun i hi => by omega⟩
    · rw [if_neg e]; exact h
  · simp [zset]
    exact h3
theorem zWF_set5 {D : zBk} (hW : zWF D) {s : Nat} {v : Int} (hv : 0 ≤ v ∧ v ≤ 99) : zWF (zset D 5 s v) := by
  obtain ⟨h1, h2, h3⟩ := hW
  refine ⟨fun w' hw => ?_, fun s' hs => ?_, ?_⟩
  · have h := h1 w' hw
    simp [zset]
    exact h
  · have h := h2 s' hs
    simp [zset]
    by_cases e : s' = s
    · rw [if_pos e]; exact ⟨by omega, by omega, by omega, by omega, by omega, by omega, by omega, by omega, by omega, h.2.2.2.2.2.2.2.2.2⟩
    · rw [if_neg e]; exact h
  · simp [zset]
    exact h3
theorem zWF_set6 {D : zBk} (hW : zWF D) {s : Nat} {v : Int} (hv : 0 ≤ v ∧ v ≤ 99) : zWF (zset D 6 s v) := by
  obtain ⟨h1, h2, h3⟩ := hW
  refine ⟨fun w' hw => ?_, fun s' hs => ?_, ?_⟩
  · have h := h1 w' hw
    simp [zset]
    exact h
  · have h := h2 s' hs
    simp [zset]
    by_cases e : s' = s
    · rw [if_pos e]; exact ⟨by omega, by omega, by omega, by omega, by omega, by omega, by omega, by omega, by omega, h.2.2.2.2.2.2.2.2.2⟩
    · rw [if_neg e]; exact h
  · simp [zset]
    exact h3
theorem zWF_set7 {D : zBk} (hW : zWF D) {s : Nat} {v : Int} (hv : v = -6 ∨ (0 ≤ v ∧ v ≤ 30)) : zWF (zset D 7 s v) := by
  obtain ⟨h1, h2, h3⟩ := hW
  refine ⟨fun w' hw => ?_, fun s' hs => ?_, ?_⟩
  · have h := h1 w' hw
    simp [zset]
    exact h
  · have h := h2 s' hs
    simp [zset]
    by_cases e : s' = s
    · rw [if_pos e]; exact ⟨by omega, by omega, by omega, by omega, by omega, by omega, by omega, by omega, by omega, h.2.2.2.2.2.2.2.2.2⟩
    · rw [if_neg e]; exact h
  · simp [zset]
    exact h3
theorem zWF_set80 {D : zBk} (hW : zWF D) {v : Int} (hv : 0 ≤ v ∧ v ≤ 99) : zWF (zset D 8 0 v) := by
  obtain ⟨h1, h2, h3⟩ := hW
  refine ⟨fun w' hw => ?_, fun s' hs => ?_, ?_⟩
  · have h := h1 w' hw
    simp [zset]
    exact h
  · have h := h2 s' hs
    simp [zset]
    exact h
  · simp [zset]
    exact ⟨by omega, by omega, h3.2.2⟩
theorem zWF_set81 {D : zBk} (hW : zWF D) {v : Int} (hv : 0 ≤ v ∧ v ≤ 3) : zWF (zset D 8 1 v) := by
  obtain ⟨h1, h2, h3⟩ := hW
  refine ⟨fun w' hw => ?_, fun s' hs => ?_, ?_⟩
  · have h := h1 w' hw
    simp [zset]
    exact h
  · have h := h2 s' hs
    simp [zset]
    exact h
  · simp [zset]
    exact ⟨by omega, by omega, by omega, by omega, h3.2.2.2.2⟩
theorem zWF_set10 {D : zBk} (hW : zWF D) {v : Int} (hv : 0 ≤ v ∧ v ≤ 14) : zWF (zset D 10 0 v) := by
  obtain ⟨h1, h2, h3⟩ := hW
  refine ⟨fun w' hw => ?_, fun s' hs => ?_, ?_⟩
  · have h := h1 w' hw
    simp [zset]
    exact h
  · have h := h2 s' hs
    simp [zset]
    exact h
  · simp [zset]
    exact ⟨by omega, by omega, by omega, by omega, by omega, by omega, h3.2.2.2.2.2.2⟩
theorem zWF_set9 {D : zBk} (hW : zWF D) {k : Nat} {v : Int} (hv : 0 ≤ v ∧ v ≤ 126) : zWF (zset D 9 k v) := by
  obtain ⟨h1, h2, h3⟩ := hW
  refine ⟨fun w' hw => ?_, fun s' hs => ?_, ?_⟩
  · have h := h1 w' hw
    simp [zset]
    exact h
  · have h := h2 s' hs
    simp [zset]
    exact h
  · simp [zset]
    refine ⟨by omega, by omega, by omega, by omega, by omega, by omega, fun j hj => ?_⟩
    have h := h3.2.2.2.2.2.2 j hj
    split <;> omega
/-- an order, a word that has no fault: what its signs are -/
theorem zf1_ok {D : zBk} {lo hi : Int} {most : Nat} (h : zf1 D lo hi most = -6) : 0 < zN D ∧ zN D ≤ most ∧ ∀ i, i < zN D → lo ≤ D 9 i ∧ D 9 i ≤ hi := by
  unfold zf1 at h
  by_cases h0 : zfst (zf1p D lo hi most) 0 (zN D) ≠ -6
  · rw [if_pos h0] at h
    exact absurd h h0
  · rw [if_neg h0] at h
    have hn : ¬ zN D = 0 := by intro z; rw [if_pos z] at h; omega
    have hall := zfst_none (zf1p D lo hi most) (zN D) 0 (Classical.byContradiction h0)
    have hp : ∀ i, i < zN D → ¬ (most ≤ i ∨ ¬ (lo ≤ D 9 i ∧ D 9 i ≤ hi)) := fun i hi z => hall i (by omega) (by omega) (decide_eq_true z)
    refine ⟨by omega, ?_, fun i hi => ?_⟩
    · have := hp (zN D - 1) (by omega)
      omega
    · have := hp i hi
      omega
theorem zWF_word {D : zBk} (hW : zWF D) (w : Int) : zWF (zU_word D w) := by
  unfold zU_word
  by_cases hc : (0 ≤ w ∧ w ≤ 9) ∧ zflt D 0 = -6
  · rw [if_pos hc]
    have hok : zf1 D 97 102 5 = -6 := by have := hc.2; unfold zflt at this; rwa [if_pos rfl] at this
    obtain ⟨k1, k2, k3⟩ := zf1_ok hok
    have hn := zN_eq hW
    obtain ⟨h1, h2, h3⟩ := hW
    refine ⟨fun w' hw => ?_, fun s' hs => ?_, ?_⟩
    · have h := h1 w' hw
      by_cases e : w' = w.toNat
      · subst e
        simp
        refine ⟨by omega, by omega, by omega, by omega, by omega, fun i hi => ?_⟩
        have hki := k3 i (by omega)
        rw [if_pos (by omega)]
        omega
      · simp [e]
        refine ⟨by omega, by omega, by omega, by omega, by omega, fun i hi => ?_⟩
        rw [if_neg (by omega)]
        exact h.2.2.2.2.2 i hi
    · have h := h2 s' hs
      simp
      exact h
    · simp
      exact ⟨by omega, by omega, by omega, by omega, h3.2.2.2.2.2.2⟩
  · rw [if_neg hc]
    exact hW
theorem zWF_sheet {D : zBk} (hW : zWF D) (s : Int) : zWF (zU_sheet D s) := by
  unfold zU_sheet
  by_cases hc : (0 ≤ s ∧ s ≤ 5) ∧ zflt D 1 = -6
  · rw [if_pos hc]
    have hok : zf1 D 48 57 6 = -6 := by have := hc.2; unfold zflt at this; rwa [if_neg (by decide), if_pos rfl] at this
    obtain ⟨k1, k2, k3⟩ := zf1_ok hok
    have hn := zN_eq hW
    obtain ⟨h1, h2, h3⟩ := hW
    refine ⟨fun w' hw => ?_, fun s' hs => ?_, ?_⟩
    · have h := h1 w' hw
      simp
      exact h
    · have h := h2 s' hs
      by_cases e : s' = s.toNat
      · subst e
        simp
        refine ⟨by omega, by omega, by omega, by omega, by omega, by omega, by omega, by omega, by omega, fun i hi => ?_⟩
        have hki := k3 i (by omega)
        rw [if_pos (by omega)]
        omega
      · simp [e]
        refine ⟨by omega, by omega, by omega, by omega, by omega, by omega, by omega, by omega, by omega, fun i hi => ?_⟩
        rw [if_neg (by omega)]
        exact h.2.2.2.2.2.2.2.2.2 i hi
    · simp
      exact ⟨by omega, by omega, by omega, by omega, h3.2.2.2.2.2.2⟩
  · rw [if_neg hc]
    exact hW
/-! the class's memory -/
theorem zIm.wr {b q k : Nat} {o : Option zBk} {v : Int} {μ : zMem} (h : zIm b o μ) (hq : q < b) : zIm b o (zwr μ q k v) := h.row (fun _ h1 _ => zwr_ne (by omega))
theorem zIm.rw' {b q : Nat} {o : Option zBk} {f : Nat → Int} {μ : zMem} (h : zIm b o μ) (hq : q < b) : zIm b o (zrow μ q f) := h.row (fun _ h1 _ => zrow_ne (by omega))
theorem zPad.wr {q k : Nat} {D : zBk} {v : Int} {μ : zMem} (h : zPad D μ) (hq : q < 18) : zPad D (zwr μ q k v) := ⟨fun j hj => by rw [zwr_ne (by omega)]; exact h.1 j hj, by rw [zwr_ne (by omega)]; exact h.2⟩
theorem zRX_set {D : zBk} {K0 K1 : Option zBk} {μ : zMem} {t arr k j : Nat} {v : Int} (hX : zRX D K0 K1 μ) (hW : zWF (zset D t k v)) (hc : (t = 2 ∧ arr = 11 ∧ j = k ∧ k < 10) ∨ (t = 4 ∧ arr = 15 ∧ j = k ∧ k < 6 ∧ v = 0) ∨ (t = 5 ∧ arr = 5 ∧ j = k ∧ k < 6) ∨ (t = 6 ∧ arr = 3 ∧ j = 10 + k ∧ k < 6) ∨ (t = 7 ∧ arr = 17 ∧ j = k ∧ k < 6) ∨ (t = 8 ∧ arr = 3 ∧ ((k = 0 ∧ j = 1) ∨ (k = 1 ∧ j = 0)))) : zRX (zset D t k v) K0 K1 (zwr μ arr j v) := by
  obtain ⟨-, hS, hp, hI0, hI1⟩ := hX
  have harr : arr < 18 := by omega
  have hp2 : zPad (zset D t k v) (zwr μ arr j v) := by
    refine ⟨fun i hi => ?_, ?_⟩
    · rw [zwr_ne (by omega)]
      simp only [zset]
      rw [if_neg (by omega)]
      exact hp.1 i hi
    · rw [zwr_ne (by omega)]
      simp only [zset]
      rw [if_neg (by omega)]
      exact hp.2
  refine ⟨hW, ⟨fun w hw => ?_, fun s hs => ?_, ?_, ?_⟩, hp2, hI0.wr (by omega), hI1.wr (by omega)⟩
  · have h := hS.1 w hw
    rw [zwr_ne (q' := 1 + 8) (by omega), zwr_ne (q' := 1 + 6) (by omega)]
    simp only [zset]
    rw [if_neg (by omega : ¬ (1 = t ∧ w = k))]
    refine ⟨h.1, ?_, fun i hi => ?_⟩
    · simp only [zwr]
      rcases hc with ⟨rfl, rfl, rfl, hk⟩ | hc
      · by_cases e : w = j
        · subst e; simp
        · simp [e]; exact h.2.1
      · rw [if_neg (by omega), if_neg (by omega)]; exact h.2.1
    · rw [if_neg (by omega)]; exact h.2.2 i hi
  · have h := hS.2.1 s hs
    simp only [zset]
    refine ⟨?_, ?_, ?_, ?_, ?_⟩
    · simp only [zwr]
      rcases hc with hc | ⟨rfl, rfl, rfl, hk, hv⟩ | hc
      · rw [if_neg (by omega), if_neg (by omega)]; exact h.1
      · by_cases e : s = j
        · subst e; simp
        · simp [e]; exact h.1
      · rw [if_neg (by omega), if_neg (by omega)]; exact h.1
    · simp only [zwr]
      rcases hc with hc | hc | ⟨rfl, rfl, rfl, hk⟩ | hc
      · rw [if_neg (by omega), if_neg (by omega)]; exact h.2.1
      · rw [if_neg (by omega), if_neg (by omega)]; exact h.2.1
      · by_cases e : s = j
        · subst e; simp
        · simp [e]; exact h.2.1
      · rw [if_neg (by omega), if_neg (by omega)]; exact h.2.1
    · simp only [zwr]
      rcases hc with hc | hc | hc | ⟨rfl, rfl, rfl, hk⟩ | hc | ⟨rfl, rfl, hk⟩
      · rw [if_neg (by omega), if_neg (by omega)]; exact h.2.2.1
      · rw [if_neg (by omega), if_neg (by omega)]; exact h.2.2.1
      · rw [if_neg (by omega), if_neg (by omega)]; exact h.2.2.1
      · by_cases e : s = k
        · subst e; simp
        · simp [e]; exact h.2.2.1
      · rw [if_neg (by omega), if_neg (by omega)]; exact h.2.2.1
      · rw [if_pos (by omega), if_neg (by omega), if_neg (by omega)]; exact h.2.2.1
    · simp only [zwr]
      rcases hc with hc | hc | hc | hc | ⟨rfl, rfl, rfl, hk⟩ | hc
      · rw [if_neg (by omega), if_neg (by omega)]; exact h.2.2.2.1
      · rw [if_neg (by omega), if_neg (by omega)]; exact h.2.2.2.1
      · rw [if_neg (by omega), if_neg (by omega)]; exact h.2.2.2.1
      · rw [if_neg (by omega), if_neg (by omega)]; exact h.2.2.2.1
      · by_cases e : s = j
        · subst e; simp
        · simp [e]; exact h.2.2.2.1
      · rw [if_neg (by omega), if_neg (by omega)]; exact h.2.2.2.1
    · intro i hi
      rw [zwr_ne (by omega), if_neg (by omega)]
      refine h.2.2.2.2 i ?_
      by_cases e : 4 = t ∧ s = k
      · rw [if_pos e] at hi; omega
      · rw [if_neg e] at hi; exact hi
  · simp only [zwr, zset]
    rcases hc with hc | hc | hc | ⟨rfl, rfl, rfl, hk⟩ | hc | ⟨rfl, rfl, ⟨rfl, rfl⟩ | ⟨rfl, rfl⟩⟩
    · rw [if_neg (by omega), if_neg (by omega)]; exact hS.2.2.1
    · rw [if_neg (by omega), if_neg (by omega)]; exact hS.2.2.1
    · rw [if_neg (by omega), if_neg (by omega)]; exact hS.2.2.1
    · rw [if_pos (by omega), if_neg (by omega), if_neg (by omega)]; exact hS.2.2.1
    · rw [if_neg (by omega), if_neg (by omega)]; exact hS.2.2.1
    · simp
    · simp; exact hS.2.2.1
  · simp only [zwr, zset]
    rcases hc with hc | hc | hc | ⟨rfl, rfl, rfl, hk⟩ | hc | ⟨rfl, rfl, ⟨rfl, rfl⟩ | ⟨rfl, rfl⟩⟩
    · rw [if_neg (by omega), if_neg (by omega)]; exact hS.2.2.2
    · rw [if_neg (by omega), if_neg (by omega)]; exact hS.2.2.2
    · rw [if_neg (by omega), if_neg (by omega)]; exact hS.2.2.2
    · rw [if_pos (by omega), if_neg (by omega), if_neg (by omega)]; exact hS.2.2.2
    · rw [if_neg (by omega), if_neg (by omega)]; exact hS.2.2.2
    · simp; exact hS.2.2.2
    · simp
theorem zRX_say {D : zBk} {K0 K1 : Option zBk} {μ : zMem} {v : Int} (hX : zRX D K0 K1 μ) (hv : 33 ≤ v ∧ v ≤ 126) (hn : zN D < 14) : zRX (zset (zset D 9 (zN D) v) 10 0 (D 10 0 + 1)) K0 K1 (zwr (zwr μ 20 (zN D) v) 18 1 ((zN D : Int) + 1)) := by
  obtain ⟨hW, hS, hp, hI0, hI1⟩ := hX
  have hz := zN_eq hW
  refine ⟨zWF_set10 (zWF_set9 hW (by omega)) (by omega), ?_, ⟨fun j hj => ?_, ?_⟩, (hI0.wr (by omega)).wr (by omega), (hI1.wr (by omega)).wr (by omega)⟩
  · have h2 : zShp 1 D (zwr (zwr μ 20 (zN D) v) 18 1 ((zN D : Int) + 1)) := hS.row (fun q _ h => by rw [zwr_ne (by omega), zwr_ne (by omega)])
    refine ⟨fun w hw => ?_, fun s hs => ?_, ?_, ?_⟩
    · have h := h2.1 w hw; simp only [zset]; exact h
    · have h := h2.2.1 s hs; simp only [zset]; exact h
    · exact h2.2.2.1
    · exact h2.2.2.2
  · simp [zwr, zset]
    by_cases e : j = zN D
    · simp [e]
    · simp [e]; exact hp.1 j hj
  · simp [zwr, zset]; omega
theorem zRX_wipe {D : zBk} {K0 K1 : Option zBk} {μ : zMem} (hX : zRX D K0 K1 μ) : zRX (zset D 10 0 0) K0 K1 (zwr μ 18 1 0) := by
  obtain ⟨hW, hS, hp, hI0, hI1⟩ := hX
  refine ⟨zWF_set10 hW (by omega), ?_, ⟨fun j hj => ?_, ?_⟩, hI0.wr (by omega), hI1.wr (by omega)⟩
  · have h2 : zShp 1 D (zwr μ 18 1 0) := hS.row (fun q _ h => by rw [zwr_ne (by omega)])
    refine ⟨fun w hw => ?_, fun s hs => ?_, ?_, ?_⟩
    · have h := h2.1 w hw; simp only [zset]; exact h
    · have h := h2.2.1 s hs; simp only [zset]; exact h
    · exact h2.2.2.1
    · exact h2.2.2.2
  · simp [zwr, zset]; exact hp.1 j hj
  · simp [zwr, zset]
theorem zRX_word {D : zBk} {K0 K1 : Option zBk} {μ : zMem} {w : Nat} (hX : zRX D K0 K1 μ) (hw : w < 10) (hf : zflt D 0 = -6) : zRX (zU_word D (w : Int)) K0 K1 (zwr (zrow (zrow μ 9 (fun j => if j = w then (zN D : Int) else μ 9 j)) 7 (fun j => if 5 * w ≤ j ∧ j < 5 * w + 5 then D 9 (j - 5 * w) - 97 else μ 7 j)) 18 1 0) := by
  have hW2 := zWF_word hX.1 (w : Int)
  obtain ⟨hW, hS, hp, hI0, hI1⟩ := hX
  have hz := zN_eq hW
  have hk2 := (zf1_ok (D := D) (lo := 97) (hi := 102) (most := 5) (by have := hf; unfold zflt at this; rwa [if_pos rfl] at this)).2.1
  have hU : zU_word D (w : Int) = (fun t k => if t = 10 ∧ k = 0 then 0 else if t = 1 ∧ k = w then D 10 0 else if t = 0 ∧ 5 * w ≤ k ∧ k < 5 * w + zN D then D 9 (k - 5 * w) - 97 else D t k) := by
    unfold zU_word
    rw [if_pos ⟨⟨by omega, by omega⟩, hf⟩, Int.toNat_natCast]
  rw [hU] at hW2 ⊢
  refine ⟨hW2, ⟨fun v hv => ?_, fun s hs => ?_, ?_, ?_⟩, ⟨fun j hj => ?_, ?_⟩, ((hI0.rw' (by omega)).rw' (by omega)).wr (by omega), ((hI1.rw' (by omega)).rw' (by omega)).wr (by omega)⟩
  · have h := hS.1 v hv
    by_cases e : v = w
    · subst e
      simp [zwr, zrow]
      refine ⟨by omega, h.2.1, fun i hi => ?_⟩
      have hw5 := (hW2.1 v hv).2.1
      simp at hw5
      rw [if_pos (by omega), if_pos (by omega)]
    · simp [zwr, zrow, e]
      refine ⟨h.1, h.2.1, fun i hi => ?_⟩
      have hw5 := (hW.1 v hv).2.1
      rw [if_neg (by omega), if_neg (by omega)]
      exact h.2.2 i hi
  · have h := hS.2.1 s hs
    simp [zwr, zrow]
    exact h
  · simp [zwr, zrow]; exact hS.2.2.1
  · simp [zwr, zrow]; exact hS.2.2.2
  · simp [zwr, zrow]; exact hp.1 j hj
  · simp [zwr, zrow]
theorem zRX_sheet {D : zBk} {K0 K1 : Option zBk} {μ : zMem} {s : Nat} (hX : zRX D K0 K1 μ) (hs : s < 6) (hf : zflt D 1 = -6) : zRX (zU_sheet D (s : Int)) K0 K1 (zwr (zrow (zrow μ 15 (fun j => if j = s then (zN D : Int) else μ 15 j)) 13 (fun j => if 6 * s ≤ j ∧ j < 6 * s + 6 then D 9 (j - 6 * s) - 48 else μ 13 j)) 18 1 0) := by
  have hW2 := zWF_sheet hX.1 (s : Int)
  obtain ⟨hW, hS, hp, hI0, hI1⟩ := hX
  have hz := zN_eq hW
  have hk2 := (zf1_ok (D := D) (lo := 48) (hi := 57) (most := 6) (by have := hf; unfold zflt at this; rwa [if_neg (by decide), if_pos rfl] at this)).2.1
  have hU : zU_sheet D (s : Int) = (fun t k => if t = 10 ∧ k = 0 then 0 else if t = 4 ∧ k = s then D 10 0 else if t = 3 ∧ 6 * s ≤ k ∧ k < 6 * s + zN D then D 9 (k - 6 * s) - 48 else D t k) := by
    unfold zU_sheet
    rw [if_pos ⟨⟨by omega, by omega⟩, hf⟩, Int.toNat_natCast]
  rw [hU] at hW2 ⊢
  refine ⟨hW2, ⟨fun v hv => ?_, fun u hu => ?_, ?_, ?_⟩, ⟨fun j hj => ?_, ?_⟩, ((hI0.rw' (by omega)).rw' (by omega)).wr (by omega), ((hI1.rw' (by omega)).rw' (by omega)).wr (by omega)⟩
  · have h := hS.1 v hv
    simp [zwr, zrow]
    exact h
  · have h := hS.2.1 u hu
    by_cases e : u = s
    · subst e
      simp [zwr, zrow]
      refine ⟨by omega, h.2.1, h.2.2.1, h.2.2.2.1, fun i hi => ?_⟩
      have hw5 := (hW2.2.1 u hu).2.1
      simp at hw5
      rw [if_pos (by omega), if_pos (by omega)]
    · simp [zwr, zrow, e]
      refine ⟨h.1, h.2.1, h.2.2.1, h.2.2.2.1, fun i hi => ?_⟩
      have hw5 := (hW.2.1 u hu).2.1
      rw [if_neg (by omega), if_neg (by omega)]
      exact h.2.2.2.2 i hi
  · simp [zwr, zrow]; exact hS.2.2.1
  · simp [zwr, zrow]; exact hS.2.2.2
  · simp [zwr, zrow]; exact hp.1 j hj
  · simp [zwr, zrow]
