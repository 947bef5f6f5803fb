/-! changes in an order, as the model counts them: what is meant, and that it is the same -/
def zkq (c : Nat) : Nat → Nat
  | 0 => c
  | x + 1 => zkq c x / 7
def zkdg (c x : Nat) : Nat := zkq c x % 7
def zkpw : Nat → Nat
  | 0 => 1
  | k + 1 => zkpw k * 7
def zkfc (D : zBk) (c : Nat) : Nat → Int := fun x => D 5 x - ((zkdg c x : Nat) : Int)
/-- a code of p losses, ahead of place p -/
def zkv (D : zBk) (p c : Nat) : Prop := c < 117649 ∧ (∀ x, x < 6 → ((zkdg c x : Nat) : Int) ≤ D 5 x) ∧ zkdg c 0 + zkdg c 1 + zkdg c 2 + zkdg c 3 + zkdg c 4 + zkdg c 5 = p
theorem zk_dig {d0 d1 d2 d3 d4 d5 c : Nat} (h0 : d0 < 7) (h1 : d1 < 7) (h2 : d2 < 7) (h3 : d3 < 7) (h4 : d4 < 7) (h5 : d5 < 7) (hc : c = d0 + 7 * d1 + 49 * d2 + 343 * d3 + 2401 * d4 + 16807 * d5) :
    zkdg c 0 = d0 ∧ zkdg c 1 = d1 ∧ zkdg c 2 = d2 ∧ zkdg c 3 = d3 ∧ zkdg c 4 = d4 ∧ zkdg c 5 = d5 := by
  have e1 : c / 7 = d1 + 7 * d2 + 49 * d3 + 343 * d4 + 2401 * d5 := by omega
  have e2 : c / 7 / 7 = d2 + 7 * d3 + 49 * d4 + 343 * d5 := by rw [e1]; omega
  have e3 : c / 7 / 7 / 7 = d3 + 7 * d4 + 49 * d5 := by rw [e2]; omega
  have e4 : c / 7 / 7 / 7 / 7 = d4 + 7 * d5 := by rw [e3]; omega
  have e5 : c / 7 / 7 / 7 / 7 / 7 = d5 := by rw [e4]; omega
  simp only [zkdg, zkq]
  rw [e5, e4, e3, e2, e1]
  refine ⟨by omega, by omega, by omega, by omega, by omega, by omega⟩
theorem zk_lt (c x : Nat) : zkdg c x < 7 := Nat.mod_lt _ (by decide)
theorem zk_sum {c : Nat} (hc : c < 117649) : c = zkdg c 0 + 7 * zkdg c 1 + 49 * zkdg c 2 + 343 * zkdg c 3 + 2401 * zkdg c 4 + 16807 * zkdg c 5 := by
  simp only [zkdg, zkq]
  have h5 : c / 7 / 7 / 7 / 7 / 7 < 7 := by omega
  have e5 : c / 7 / 7 / 7 / 7 / 7 % 7 = c / 7 / 7 / 7 / 7 / 7 := Nat.mod_eq_of_lt h5
  omega
theorem zk_six {P : Nat → Prop} (h0 : P 0) (h1 : P 1) (h2 : P 2) (h3 : P 3) (h4 : P 4) (h5 : P 5) : ∀ x, x < 6 → P x := fun x hx => by
  have : x = 0 ∨ x = 1 ∨ x = 2 ∨ x = 3 ∨ x = 4 ∨ x = 5 := by omega
  rcases this with rfl | rfl | rfl | rfl | rfl | rfl <;> assumption
theorem zk_add {c b : Nat} (hc : c < 117649) (hb : b < 6) (hd : zkdg c b < 6) : c + zkpw b < 117649 ∧ ∀ x, x < 6 → zkdg (c + zkpw b) x = zkdg c x + if x = b then 1 else 0 := by
  have hs := zk_sum hc
  have l0 := zk_lt c 0; have l1 := zk_lt c 1; have l2 := zk_lt c 2; have l3 := zk_lt c 3; have l4 := zk_lt c 4; have l5 := zk_lt c 5
  have : b = 0 ∨ b = 1 ∨ b = 2 ∨ b = 3 ∨ b = 4 ∨ b = 5 := by omega
  rcases this with rfl | rfl | rfl | rfl | rfl | rfl
  · have h := zk_dig (c := c + zkpw 0) (d0 := zkdg c 0 + 1) (by omega) l1 l2 l3 l4 l5 (by show c + 1 = _; omega)
    refine ⟨by show c + 1 < _; omega, zk_six ?_ ?_ ?_ ?_ ?_ ?_⟩
    · simp [h.1]
    · simp [h.2.1]
    · simp [h.2.2.1]
    · simp [h.2.2.2.1]
    · simp [h.2.2.2.2.1]
    · simp [h.2.2.2.2.2]
  · have h := zk_dig (c := c + zkpw 1) (d1 := zkdg c 1 + 1) l0 (by omega) l2 l3 l4 l5 (by show c + 7 = _; omega)
    refine ⟨by show c + 7 < _; omega, zk_six ?_ ?_ ?_ ?_ ?_ ?_⟩
    · simp [h.1]
    · simp [h.2.1]
    · simp [h.2.2.1]
    · simp [h.2.2.2.1]
    · simp [h.2.2.2.2.1]
    · simp [h.2.2.2.2.2]
  · have h := zk_dig (c := c + zkpw 2) (d2 := zkdg c 2 + 1) l0 l1 (by omega) l3 l4 l5 (by show c + 49 = _; omega)
    refine ⟨by show c + 49 < _; omega, zk_six ?_ ?_ ?_ ?_ ?_ ?_⟩
    · simp [h.1]
    · simp [h.2.1]
    · simp [h.2.2.1]
    · simp [h.2.2.2.1]
    · simp [h.2.2.2.2.1]
    · simp [h.2.2.2.2.2]
  · have h := zk_dig (c := c + zkpw 3) (d3 := zkdg c 3 + 1) l0 l1 l2 (by omega) l4 l5 (by show c + 343 = _; omega)
    refine ⟨by show c + 343 < _; omega, zk_six ?_ ?_ ?_ ?_ ?_ ?_⟩
    · simp [h.1]
    · simp [h.2.1]
    · simp [h.2.2.1]
    · simp [h.2.2.2.1]
    · simp [h.2.2.2.2.1]
    · simp [h.2.2.2.2.2]
  · have h := zk_dig (c := c + zkpw 4) (d4 := zkdg c 4 + 1) l0 l1 l2 l3 (by omega) l5 (by show c + 2401 = _; omega)
    refine ⟨by show c + 2401 < _; omega, zk_six ?_ ?_ ?_ ?_ ?_ ?_⟩
    · simp [h.1]
    · simp [h.2.1]
    · simp [h.2.2.1]
    · simp [h.2.2.2.1]
    · simp [h.2.2.2.2.1]
    · simp [h.2.2.2.2.2]
  · have h := zk_dig (c := c + zkpw 5) (d5 := zkdg c 5 + 1) l0 l1 l2 l3 l4 (by omega) (by show c + 16807 = _; omega)
    refine ⟨by show c + 16807 < _; omega, zk_six ?_ ?_ ?_ ?_ ?_ ?_⟩
    · simp [h.1]
    · simp [h.2.1]
    · simp [h.2.2.1]
    · simp [h.2.2.2.1]
    · simp [h.2.2.2.2.1]
    · simp [h.2.2.2.2.2]
theorem zkv_le {D : zBk} {p c : Nat} (h : zkv D p c) : ∀ x, x < 6 → zkdg c x ≤ p := by
  have := h.2.2
  exact zk_six (by omega) (by omega) (by omega) (by omega) (by omega) (by omega)
theorem zkv_fc {D : zBk} {p c : Nat} (h : zkv D p c) : ∀ x, x < 6 → 0 ≤ zkfc D c x ∧ zkfc D c x ≤ D 5 x := fun x hx => by
  have := h.2.1 x hx
  unfold zkfc
  omega
/-- what is broken is a sort of which one is there -/
theorem zcan_b {D : zBk} {p ch : Nat} {f : Nat → Int} (hW : zWF D) (ho : zord D p < 6) (h : zcan D p ch f) : ∃ b : Nat, zbx D (zord D p) ch = (b : Int) ∧ b < 6 ∧ 0 < f b ∧ zokc D (zord D p) ch ∧ 0 < D 4 (zord D p) ∧ zbk D (zord D p) ch = (b : Int) := by
  obtain ⟨h1, h2⟩ := h
  have hk : zokc D (zord D p) ch ∧ 0 < D 4 (zord D p) := by
    by_cases e : zokc D (zord D p) ch ∧ 0 < D 4 (zord D p)
    · exact e
    · exact absurd (by unfold zbx; rw [if_neg e]) h1
  have hb := zbk_b ch hW ho hk.2
  have hx : zbx D (zord D p) ch = zbk D (zord D p) ch := by unfold zbx; rw [if_pos hk]
  obtain ⟨b, hbb⟩ : ∃ b : Nat, zbk D (zord D p) ch = (b : Int) := ⟨(zbk D (zord D p) ch).toNat, by omega⟩
  have h3 := (zlk_0.mp h2) b (by omega)
  rw [hbb, Int.toNat_natCast] at hb
  exact ⟨b, by rw [hx]; exact hbb, by omega, by omega, hk.1, hk.2, hbb⟩
theorem zkv_next {D : zBk} {p c b : Nat} (h : zkv D p c) (hp : p ≤ 5) (hb : b < 6) (hf : 0 < zkfc D c b) : zkv D (p + 1) (c + zkpw b) ∧ ∀ x, x < 6 → zkfc D (c + zkpw b) x = zls (zkfc D c) (b : Int) x := by
  have hl := zkv_le h b hb
  have ha := zk_add h.1 hb (by omega)
  have hfb : ((zkdg c b : Nat) : Int) + 1 ≤ D 5 b := by unfold zkfc at hf; omega
  refine ⟨⟨ha.1, fun x hx => ?_, ?_⟩, fun x hx => ?_⟩
  · rw [ha.2 x hx]
    have h1 := h.2.1 x hx
    by_cases e : x = b
    · subst e; rw [if_pos rfl]; omega
    · rw [if_neg e]; exact h1
  · rw [ha.2 0 (by omega), ha.2 1 (by omega), ha.2 2 (by omega), ha.2 3 (by omega), ha.2 4 (by omega), ha.2 5 (by omega)]
    have h3 := h.2.2
    have : b = 0 ∨ b = 1 ∨ b = 2 ∨ b = 3 ∨ b = 4 ∨ b = 5 := by omega
    rcases this with rfl | rfl | rfl | rfl | rfl | rfl <;> simp <;> omega
  · unfold zls
    show D 5 x - ((zkdg (c + zkpw b) x : Nat) : Int) = _
    rw [ha.2 x hx]
    by_cases e : x = b
    · subst e
      rw [if_pos rfl, if_pos ⟨rfl, hf⟩]
      unfold zkfc
      omega
    · rw [if_neg e, if_neg (fun z => e (by omega))]
      unfold zkfc
      omega
/-! the least of what 64 ways cost, where it can be; the first such way -/
def zbmn (A : Nat → Int) : Nat → Int
  | 0 => -6
  | k + 1 => if 0 ≤ A k ∧ (zbmn A k < 0 ∨ A k < zbmn A k) then A k else zbmn A k
def zcsl (A : Nat → Int) : Nat → Nat
  | 0 => 0
  | k + 1 => if 0 ≤ A k ∧ (zbmn A k < 0 ∨ A k < zbmn A k) then k else zcsl A k
def zfwA (D : zBk) (W : (Nat → Int) → Int) (p : Nat) (f : Nat → Int) : Nat → Int := fun ch => if zcan D p ch f ∧ 0 ≤ W (zls f (zbx D (zord D p) ch)) then zpc ch + W (zls f (zbx D (zord D p) ch)) else -6
def zfw (D : zBk) : Nat → Nat → (Nat → Int) → Int
  | 0, _, _ => 0
  | k + 1, p, f => zbmn (zfwA D (zfw D k (p + 1)) p f) 64
/-- the way that is taken first -/
def zch1 (D : zBk) (k p : Nat) (f : Nat → Int) : Nat := zcsl (zfwA D (zfw D k (p + 1)) p f) 64
def zlo (D : zBk) : Nat → Nat → (Nat → Int) → Int
  | 0, _, _ => 0
  | k + 1, p, f => (zch1 D k p f : Int) * ((2 ^ (6 * (5 - p)) : Nat) : Int) + zlo D k (p + 1) (zls f (zbx D (zord D p) (zch1 D k p f)))
def zdgt (D : zBk) : Nat → Nat → (Nat → Int) → Nat → Int
  | 0, _, _, _ => 0
  | k + 1, p, f, 0 => (zch1 D k p f : Int)
  | k + 1, p, f, j + 1 => zdgt D k (p + 1) (zls f (zbx D (zord D p) (zch1 D k p f))) j
theorem zbmn_ps (A : Nat → Int) : ∀ n, (zbmn A n < 0 → zbmn A n = -6 ∧ ∀ j, j < n → A j < 0) ∧ (0 ≤ zbmn A n → zcsl A n < n ∧ A (zcsl A n) = zbmn A n ∧ (∀ j, j < n → A j < 0 ∨ zbmn A n ≤ A j) ∧ ∀ j, j < zcsl A n → A j ≠ zbmn A n)
  | 0 => ⟨fun _ => ⟨rfl, fun j h => by omega⟩, fun h => by simp [zbmn] at h⟩
  | n + 1 => by
    obtain ⟨h1, h2⟩ := zbmn_ps A n
    simp only [zbmn, zcsl]
    by_cases hc : 0 ≤ A n ∧ (zbmn A n < 0 ∨ A n < zbmn A n)
    · rw [if_pos hc, if_pos hc]
      refine ⟨fun h => by omega, fun _ => ⟨by omega, rfl, fun j hj => ?_, fun j hj => ?_⟩⟩
      · by_cases e : j = n
        · subst e; omega
        · rcases hc.2 with h | h
          · exact Or.inl ((h1 h).2 j (by omega))
          · have := (h2 (by omega)).2.2.1 j (by omega)
            omega
      · rcases hc.2 with h | h
        · have := (h1 h).2 j hj
          omega
        · have := (h2 (by omega)).2.2.1 j hj
          omega
    · rw [if_neg hc, if_neg hc]
      refine ⟨fun h => ⟨(h1 h).1, fun j hj => ?_⟩, fun h => ⟨by have := (h2 h).1; omega, (h2 h).2.1, fun j hj => ?_, (h2 h).2.2.2⟩⟩
      · by_cases e : j = n
        · subst e; omega
        · exact (h1 h).2 j (by omega)
      · by_cases e : j = n
        · subst e; omega
        · exact (h2 h).2.2.1 j (by omega)
theorem zcsl_lt (A : Nat → Int) : ∀ n, zcsl A n ≤ n
  | 0 => Nat.le_refl _
  | n + 1 => by
    simp only [zcsl]
    split
    · omega
    · have := zcsl_lt A n; omega
theorem zch1_lt (D : zBk) (k p : Nat) (f : Nat → Int) : zch1 D k p f < 64 := by
  unfold zch1
  rcases (by omega : zbmn (zfwA D (zfw D k (p + 1)) p f) 64 < 0 ∨ 0 ≤ zbmn (zfwA D (zfw D k (p + 1)) p f) 64) with h | h
  · have hz : ∀ n, (∀ j, j < n → zfwA D (zfw D k (p + 1)) p f j < 0) → zcsl (zfwA D (zfw D k (p + 1)) p f) n = 0 := by
      intro n
      induction n with
      | zero => intro _; rfl
      | succ n ih =>
        intro hj
        simp only [zcsl]
        rw [if_neg (fun z => by have := hj n (by omega); omega)]
        exact ih (fun j h => hj j (by omega))
    rw [hz 64 ((zbmn_ps _ 64).1 h).2]
    decide
  · exact ((zbmn_ps _ 64).2 h).1
theorem zmn_key {A L F : Nat → Int} {M : Int} (hM : M = 1 ∨ M = 64 ∨ M = 4096 ∨ M = 262144 ∨ M = 16777216 ∨ M = 1073741824) (hA : ∀ ch, ch < 64 → A ch ≤ 100) (hL : ∀ ch, ch < 64 → 0 ≤ L ch ∧ L ch < M)
    (hF : ∀ ch, ch < 64 → (0 ≤ A ch → F ch = A ch * 68719476736 + ((ch : Int) * M + L ch)) ∧ (A ch < 0 → 1152921504606846976 ≤ F ch)) : ∀ n, n ≤ 64 → zmnn F n = if 0 ≤ zbmn A n then zbmn A n * 68719476736 + ((zcsl A n : Int) * M + L (zcsl A n)) else 1152921504606846976
  | 0, _ => rfl
  | n + 1, hn => by
    have ih := zmn_key hM hA hL hF n (by omega)
    have hp := zbmn_ps A n
    have hAn := hA n (by omega)
    have hLn := hL n (by omega)
    have hcl := zcsl_lt A n
    by_cases hc : 0 ≤ A n ∧ (zbmn A n < 0 ∨ A n < zbmn A n)
    · have e1 : zbmn A (n + 1) = A n := by simp only [zbmn]; rw [if_pos hc]
      have e2 : zcsl A (n + 1) = n := by simp only [zcsl]; rw [if_pos hc]
      have e3 : zmnn F (n + 1) = min (zmnn F n) (F n) := rfl
      rw [e1, e2, e3, ih, (hF n (by omega)).1 hc.1, if_pos hc.1]
      rcases hc.2 with h | h
      · rw [if_neg (by omega)]
        rcases hM with rfl | rfl | rfl | rfl | rfl | rfl <;> omega
      · rw [if_pos (by omega)]
        have h3 := hp.2 (by omega)
        have hLc := hL (zcsl A n) (by omega)
        rcases hM with rfl | rfl | rfl | rfl | rfl | rfl <;> omega
    · have e1 : zbmn A (n + 1) = zbmn A n := by simp only [zbmn]; rw [if_neg hc]
      have e2 : zcsl A (n + 1) = zcsl A n := by simp only [zcsl]; rw [if_neg hc]
      have e3 : zmnn F (n + 1) = min (zmnn F n) (F n) := rfl
      rw [e1, e2, e3, ih]
      by_cases h0 : 0 ≤ A n
      · rw [(hF n (by omega)).1 h0, if_pos (by omega)]
        have h3 := hp.2 (by omega)
        have hLc := hL (zcsl A n) (by omega)
        have h6 : A n = zbmn A n → (zcsl A n : Int) + 1 ≤ (n : Int) := fun _ => by have := h3.1; omega
        rcases hM with rfl | rfl | rfl | rfl | rfl | rfl <;> omega
      · have hFn := (hF n (by omega)).2 (by omega)
        by_cases h1 : 0 ≤ zbmn A n
        · rw [if_pos h1]
          have h3 := hp.2 h1
          have h4 := hA (zcsl A n) (by omega)
          have hLc := hL (zcsl A n) (by omega)
          rcases hM with rfl | rfl | rfl | rfl | rfl | rfl <;> omega
        · rw [if_neg h1]
          omega
theorem zM_v : ∀ p, p < 6 → (((2 ^ (6 * (5 - p)) : Nat) : Int) = 1 ∨ ((2 ^ (6 * (5 - p)) : Nat) : Int) = 64 ∨ ((2 ^ (6 * (5 - p)) : Nat) : Int) = 4096 ∨ ((2 ^ (6 * (5 - p)) : Nat) : Int) = 262144 ∨ ((2 ^ (6 * (5 - p)) : Nat) : Int) = 16777216 ∨ ((2 ^ (6 * (5 - p)) : Nat) : Int) = 1073741824) := by decide
theorem zM_s : ∀ p, p < 5 → ((2 ^ (6 * (5 - p)) : Nat) : Int) = 64 * ((2 ^ (6 * (5 - (p + 1))) : Nat) : Int) := by decide
theorem zlo_b (D : zBk) : ∀ k p f, p + k ≤ 6 → 0 ≤ zlo D k p f ∧ (p < 6 → zlo D k p f < 64 * ((2 ^ (6 * (5 - p)) : Nat) : Int)) ∧ (k = 0 → zlo D k p f = 0)
  | 0, p, f, _ => ⟨Int.le_refl _, fun hp => by
    have h := zM_v p hp
    show (0 : Int) < _
    omega, fun _ => rfl⟩
  | k + 1, p, f, h => by
    have ih := zlo_b D k (p + 1) (zls f (zbx D (zord D p) (zch1 D k p f))) (by omega)
    have hc := zch1_lt D k p f
    have hM := zM_v p (by omega)
    have hlt : zlo D k (p + 1) (zls f (zbx D (zord D p) (zch1 D k p f))) < ((2 ^ (6 * (5 - p)) : Nat) : Int) := by
      by_cases e : p < 5
      · have h1 := ih.2.1 (by omega)
        rw [zM_s p e]
        exact h1
      · have h1 := ih.2.2 (by omega)
        omega
    simp only [zlo]
    generalize ((2 ^ (6 * (5 - p)) : Nat) : Int) = M at hM hlt ⊢
    refine ⟨?_, fun _ => ?_, fun z => by omega⟩
    · rcases hM with rfl | rfl | rfl | rfl | rfl | rfl <;> omega
    · rcases hM with rfl | rfl | rfl | rfl | rfl | rfl <;> omega
theorem zfw_b (D : zBk) : ∀ k p f, k ≤ 6 → zfw D k p f = -6 ∨ (0 ≤ zfw D k p f ∧ zfw D k p f ≤ 6 * k)
  | 0, _, _, _ => Or.inr ⟨Int.le_refl _, by simp [zfw]⟩
  | k + 1, p, f, hk => by
    simp only [zfw]
    have hp := zbmn_ps (zfwA D (zfw D k (p + 1)) p f) 64
    rcases (by omega : zbmn (zfwA D (zfw D k (p + 1)) p f) 64 < 0 ∨ 0 ≤ zbmn (zfwA D (zfw D k (p + 1)) p f) 64) with h | h
    · exact Or.inl (hp.1 h).1
    · refine Or.inr ⟨h, ?_⟩
      have h2 := (hp.2 h).2.1
      rw [← h2]
      unfold zfwA
      split
      · have h3 := zfw_b D k (p + 1) (zls f (zbx D (zord D p) (zcsl (zfwA D (zfw D k (p + 1)) p f) 64))) (by omega)
        have h4 := zpc_b (zcsl (zfwA D (zfw D k (p + 1)) p f) 64)
        unfold zfwA at h3 h4
        omega
      · omega
theorem zfwA_b (D : zBk) {k p : Nat} {f : Nat → Int} (hk : k < 6) (ch : Nat) : zfwA D (zfw D k (p + 1)) p f ch ≤ 100 ∧ -6 ≤ zfwA D (zfw D k (p + 1)) p f ch := by
  unfold zfwA
  have h3 := zfw_b D k (p + 1) (zls f (zbx D (zord D p) ch)) (by omega)
  have h4 := zpc_b ch
  split
  · omega
  · omega
/-- the class's least number, told by the model's -/
theorem zlf_fw (D : zBk) : ∀ k p f, p + k ≤ 6 → zlf D k p f = if 0 ≤ zfw D k p f then zfw D k p f * 68719476736 + zlo D k p f else 1152921504606846976
  | 0, p, f, _ => by simp [zlf, zfw, zlo]
  | k + 1, p, f, h => by
    simp only [zlf, zfw, zlo]
    have hM := zM_v p (by omega)
    refine zmn_key (A := zfwA D (zfw D k (p + 1)) p f) (L := fun ch => zlo D k (p + 1) (zls f (zbx D (zord D p) ch))) (M := ((2 ^ (6 * (5 - p)) : Nat) : Int)) hM (fun ch _ => (zfwA_b D (by omega) ch).1) (fun ch _ => ?_) (fun ch hch => ?_) 64 (Nat.le_refl _)
    · have ih := zlo_b D k (p + 1) (zls f (zbx D (zord D p) ch)) (by omega)
      refine ⟨ih.1, ?_⟩
      by_cases e : p < 5
      · rw [zM_s p e]; exact ih.2.1 (by omega)
      · have h1 := ih.2.2 (by omega)
        show zlo D k (p + 1) (zls f (zbx D (zord D p) ch)) < _
        omega
    · have ih := zlf_fw D k (p + 1) (zls f (zbx D (zord D p) ch)) (by omega)
      have hn := zpc_b ch
      have ho := zown_b p ch
      unfold zfwA
      by_cases hc : zcan D p ch f
      · rw [if_pos hc, ih]
        by_cases h0 : 0 ≤ zfw D k (p + 1) (zls f (zbx D (zord D p) ch))
        · rw [if_pos h0, if_pos (c := zcan D p ch f ∧ _) ⟨hc, h0⟩]
          refine ⟨fun _ => ?_, fun z => by omega⟩
          unfold zown
          omega
        · rw [if_neg h0, if_neg (c := zcan D p ch f ∧ _) (fun z => h0 z.2)]
          exact ⟨fun z => by omega, fun _ => by omega⟩
      · rw [if_neg hc, if_neg (c := zcan D p ch f ∧ _) (fun z => hc z.1)]
        exact ⟨fun z => by omega, fun _ => Int.le_refl _⟩
theorem zM_c : ((2 ^ (6 * (5 - 0)) : Nat) : Int) = 1073741824 ∧ ((2 ^ (6 * (5 - 1)) : Nat) : Int) = 16777216 ∧ ((2 ^ (6 * (5 - 2)) : Nat) : Int) = 262144 ∧ ((2 ^ (6 * (5 - 3)) : Nat) : Int) = 4096 ∧ ((2 ^ (6 * (5 - 4)) : Nat) : Int) = 64 ∧ ((2 ^ (6 * (5 - 5)) : Nat) : Int) = 1 := by decide
theorem zM_q : ∀ p, p < 6 → ∀ j, p + (j + 1) < 6 → ∃ t : Int, ((2 ^ (6 * (5 - p)) : Nat) : Int) = 64 * ((2 ^ (6 * (5 - (p + (j + 1)))) : Nat) : Int) * t ∧ (t = 1 ∨ t = 64 ∨ t = 4096 ∨ t = 262144 ∨ t = 16777216) := by
  intro p hp j hj
  have hx : p + j < 5 := by omega
  have : (p = 0 ∨ p = 1 ∨ p = 2 ∨ p = 3 ∨ p = 4) ∧ (j = 0 ∨ j = 1 ∨ j = 2 ∨ j = 3 ∨ j = 4) := by omega
  obtain ⟨rfl | rfl | rfl | rfl | rfl, rfl | rfl | rfl | rfl | rfl⟩ := this <;> first | omega | exact ⟨1, by decide, by decide⟩ | exact ⟨64, by decide, by decide⟩ | exact ⟨4096, by decide, by decide⟩ | exact ⟨262144, by decide, by decide⟩ | exact ⟨16777216, by decide, by decide⟩
theorem zlo_d (D : zBk) : ∀ k p f j, p + k ≤ 6 → j < k → zlo D k p f / ((2 ^ (6 * (5 - (p + j))) : Nat) : Int) % 64 = zdgt D k p f j
  | 0, _, _, _, _, h => by omega
  | k + 1, p, f, 0, h, _ => by
    have hc := zch1_lt D k p f
    have hb := zlo_b D k (p + 1) (zls f (zbx D (zord D p) (zch1 D k p f))) (by omega)
    have hM := zM_v p (by omega)
    have hlt : zlo D k (p + 1) (zls f (zbx D (zord D p) (zch1 D k p f))) < ((2 ^ (6 * (5 - p)) : Nat) : Int) := by
      by_cases e : p < 5
      · rw [zM_s p e]; exact hb.2.1 (by omega)
      · have h1 := hb.2.2 (by omega)
        omega
    simp only [zlo, zdgt, Nat.add_zero]
    generalize ((2 ^ (6 * (5 - p)) : Nat) : Int) = M at hM hlt ⊢
    rcases hM with rfl | rfl | rfl | rfl | rfl | rfl <;> omega
  | k + 1, p, f, j + 1, h, hj => by
    have ih := zlo_d D k (p + 1) (zls f (zbx D (zord D p) (zch1 D k p f))) j (by omega) (by omega)
    obtain ⟨t, ht, htv⟩ := zM_q p (by omega) j (by omega)
    have hM := zM_v (p + (j + 1)) (by omega)
    simp only [zlo, zdgt]
    rw [← ih, ht, show p + 1 + j = p + (j + 1) by omega]
    generalize ((2 ^ (6 * (5 - (p + (j + 1)))) : Nat) : Int) = M at hM ⊢
    generalize zlo D k (p + 1) (zls f (zbx D (zord D p) (zch1 D k p f))) = lo
    generalize ((zch1 D k p f : Nat) : Int) = ch
    have e1 : ch * (64 * M * t) + lo = lo + M * (64 * (t * ch)) := by
      rw [Int.add_comm]
      congr 1
      rw [Int.mul_comm ch, Int.mul_assoc, Int.mul_assoc, Int.mul_left_comm]
    rw [e1, Int.add_mul_ediv_left _ _ (by omega)]
    omega
theorem zdgt_b (D : zBk) : ∀ k p f j, 0 ≤ zdgt D k p f j ∧ zdgt D k p f j < 64
  | 0, _, _, _ => by simp [zdgt]
  | k + 1, p, f, 0 => by have := zch1_lt D k p f; simp only [zdgt]; omega
  | k + 1, p, f, j + 1 => zdgt_b D k (p + 1) _ j
/-- what 'changes' answers, told the model's way -/
theorem zA_chg {D : zBk} (i : Int) (hO : zOrd D) : zA_changes D i = if zflt D 2 = -6 then (if -1 ≤ i ∧ i ≤ D 10 0 - 1 then (if 0 ≤ zfw D (zN D) 0 (D 5) then (if i < 0 then zfw D (zN D) 0 (D 5) else zdgt D (zN D) 0 (D 5) i.toNat) else -6) else -6) else -5 := by
  unfold zA_changes
  by_cases h1 : zflt D 2 = -6
  · rw [if_pos h1, if_pos h1]
    by_cases h2 : -1 ≤ i ∧ i ≤ D 10 0 - 1
    · rw [if_pos h2, if_pos h2]
      have hn6 := hO.1.2
      have hf := zlf_fw D (zN D) 0 (D 5) (by omega)
      have hlo := zlo_b D (zN D) 0 (D 5) (by omega)
      have hl2 := hlo.2.1 (by decide)
      have hwb := zfw_b D (zN D) 0 (D 5) hn6
      by_cases h3 : 0 ≤ zfw D (zN D) 0 (D 5)
      · rw [if_pos h3] at hf
        have hl3 : zlo D (zN D) 0 (D 5) < 68719476736 := hl2
        rw [if_pos h3, hf, if_pos (by omega)]
        by_cases h4 : i < 0
        · rw [if_pos h4, if_pos h4]
          omega
        · rw [if_neg h4, if_neg h4]
          have hi : i.toNat < zN D := by unfold zN; omega
          have hd := zlo_d D (zN D) 0 (D 5) i.toNat (by omega) hi
          rw [Nat.zero_add] at hd
          rw [← hd]
          generalize zlo D (zN D) 0 (D 5) = lo
          generalize zfw D (zN D) 0 (D 5) = wq
          obtain ⟨m0, m1, m2, m3, m4, m5⟩ := zM_c
          have : i.toNat = 0 ∨ i.toNat = 1 ∨ i.toNat = 2 ∨ i.toNat = 3 ∨ i.toNat = 4 ∨ i.toNat = 5 := by omega
          rcases this with e | e | e | e | e | e <;> rw [e]
          · rw [m0]; omega
          · rw [m1]; omega
          · rw [m2]; omega
          · rw [m3]; omega
          · rw [m4]; omega
          · rw [m5]; omega
      · rw [if_neg h3] at hf
        rw [if_neg h3, hf, if_neg (by omega)]
    · rw [if_neg h2, if_neg h2]
  · rw [if_neg h1, if_neg h1]
theorem zcan_congr {D : zBk} {p ch : Nat} {f f2 : Nat → Int} (h : ∀ x, x < 6 → f x = f2 x) : zcan D p ch f ↔ zcan D p ch f2 := by
  have h1 : zlk (znd D (zord D p) ch) f = zlk (znd D (zord D p) ch) f2 := zlk_congr (fun _ _ => rfl) h
  unfold zcan
  rw [h1]
theorem zfw_congr {D : zBk} : ∀ k p (f f2 : Nat → Int), (∀ x, x < 6 → f x = f2 x) → zfw D k p f = zfw D k p f2
  | 0, _, _, _, _ => rfl
  | k + 1, p, f, f2, h => by
    have e : zfwA D (zfw D k (p + 1)) p f = zfwA D (zfw D k (p + 1)) p f2 := by
      funext ch
      unfold zfwA
      rw [zfw_congr k (p + 1) (zls f (zbx D (zord D p) ch)) (zls f2 (zbx D (zord D p) ch)) (fun x hx => zls_congr (h x hx))]
      exact zif (and_congr (zcan_congr h) Iff.rfl)
    simp only [zfw]
    rw [e]
theorem zfwA_congr {D : zBk} {k p : Nat} {f f2 : Nat → Int} (h : ∀ x, x < 6 → f x = f2 x) : zfwA D (zfw D k (p + 1)) p f = zfwA D (zfw D k (p + 1)) p f2 := by
  funext ch
  unfold zfwA
  rw [zfw_congr k (p + 1) (zls f (zbx D (zord D p) ch)) (zls f2 (zbx D (zord D p) ch)) (fun x hx => zls_congr (h x hx))]
  exact zif (and_congr (zcan_congr h) Iff.rfl)
theorem zdgt_congr {D : zBk} : ∀ k p (f f2 : Nat → Int) j, (∀ x, x < 6 → f x = f2 x) → zdgt D k p f j = zdgt D k p f2 j
  | 0, _, _, _, _, _ => rfl
  | k + 1, p, f, f2, 0, h => by simp only [zdgt, zch1]; rw [zfwA_congr h]
  | k + 1, p, f, f2, j + 1, h => by
    have e : zch1 D k p f = zch1 D k p f2 := by unfold zch1; rw [zfwA_congr h]
    simp only [zdgt]
    rw [e]
    exact zdgt_congr k (p + 1) _ _ j (fun x hx => zls_congr (h x hx))
