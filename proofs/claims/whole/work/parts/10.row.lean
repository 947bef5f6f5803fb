/-! Row -/
def zRow (n : Nat) (sh : Nat → zShc) (q qa N : Nat) : Prop := q < n ∧ sh q = (0, 5, [(0, qa)]) ∧ qa < n ∧ sh qa = (1, N, []) ∧ N ≤ 100000
/-- one cell's numbers all anew -/
def zrow (μ : zMem) (q : Nat) (f : Nat → Int) : zMem := fun q' => if q' = q then f else μ q'
theorem zrow_eq {μ : zMem} {q : Nat} {f : Nat → Int} : zrow μ q f q = f := by simp [zrow]
theorem zrow_ne {μ : zMem} {q q' : Nat} {f : Nat → Int} (h : q' ≠ q) : zrow μ q f q' = μ q' := by simp [zrow, h]
theorem zrow_self {μ : zMem} {q : Nat} {f : Nat → Int} (h : ∀ j, f j = μ q j) : zrow μ q f = μ := by
  funext q' j
  by_cases hq : q' = q
  · subst hq; simp [zrow, h]
  · simp [zrow, hq]
theorem zwr_row {μ : zMem} {q k : Nat} {f : Nat → Int} {a : Int} : zwr (zrow μ q f) q k a = zrow μ q (fun j => if j = k then a else f j) := by
  funext q' j
  by_cases hq : q' = q <;> simp [zwr, zrow, hq]
theorem zwr_eq_row {μ : zMem} {q k : Nat} {a : Int} : zwr μ q k a = zrow μ q (fun j => if j = k then a else μ q j) := by
  funext q' j
  by_cases hq : q' = q
  · subst hq; simp [zwr, zrow]
  · simp [zwr, zrow, hq]
theorem zrow_row {μ : zMem} {q : Nat} {f g : Nat → Int} : zrow (zrow μ q f) q g = zrow μ q g := by
  funext q' j
  by_cases hq : q' = q <;> simp [zrow, hq]
theorem zrow_congr {μ : zMem} {q : Nat} {f g : Nat → Int} (h : ∀ j, f j = g j) : zrow μ q f = zrow μ q g := by rw [show f = g from funext h]
theorem zif {α : Type} {p q : Prop} [Decidable p] [Decidable q] {a b : α} (h : p ↔ q) : (if p then a else b) = if q then a else b := by
  by_cases hp : p
  · rw [if_pos hp, if_pos (h.mp hp)]
  · rw [if_neg hp, if_neg (fun z => hp (h.mpr z))]
def zrat (f : Nat → Int) (N : Nat) (i : Int) : Int := if 0 ≤ i ∧ i < N then f i.toNat else 0
theorem zrat_in {f : Nat → Int} {N j : Nat} (h : j < N) : zrat f N (j : Int) = f j := by
  unfold zrat
  rw [if_pos ⟨by omega, by omega⟩, Int.toNat_natCast]
def zsum (f : Nat → Int) : Nat → Int
  | 0 => 0
  | k + 1 => zsum f k + f k

set_option maxRecDepth 100000 in
set_option maxHeartbeats 4000000 in
theorem ct_X5_at {n : Nat} {sh : Nat → zShc} {q qa N : Nat} {μ : zMem} (h : zRow n sh q qa N) {i : Int} (hi : zr i) : Ci kX5_at 2 n sh [zP q, zI i] μ (fun a μ' => a = zrat (μ qa) N i ∧ μ' = μ) := by
  refine Ct.of [some (zP q), some (zI i)] rfl (Nat.le_of_ble_eq_true rfl) (by decide +kernel) (fun Γ ad hO hR => ?_)
  refine zY.iload_n hO dX5_at_0 rfl ?_
  refine zY.if_lt (tgt := 22) hi hO dX5_at_1 (by decide) (fun c1 => ?_) (fun c1 => ?_)
  ·
    have c : ¬ (0 ≤ i ∧ i < N) := by omega
    refine zY.iconst hO dX5_at_22 ?_
    exact zY.iret rfl ⟨_, rfl, ⟨by unfold zrat; first | rw [if_pos c] | rw [if_neg c], rfl⟩⟩ hR hO dX5_at_23
  ·
    refine zY.iload_n hO dX5_at_4 rfl ?_
    refine zY.aload_n hO dX5_at_5 rfl ?_
    refine zY.getR zfl_X5_13 h.1 h.2.1 rfl hO dX5_at_6 ?_
    refine zY.alen h.2.2.1 (Or.inl h.2.2.2.1) hO dX5_at_9 ?_
    refine zY.icmp_ge (tgt := 22) hi ⟨by have := h.2.2.2.2; omega, by have := h.2.2.2.2; omega⟩ hO dX5_at_10 (by decide) (fun c10 => ?_) (fun c10 => ?_)
    ·
      have c : ¬ (0 ≤ i ∧ i < N) := by omega
      refine zY.iconst hO dX5_at_22 ?_
      exact zY.iret rfl ⟨_, rfl, ⟨by unfold zrat; first | rw [if_pos c] | rw [if_neg c], rfl⟩⟩ hR hO dX5_at_23
    ·
      have c : 0 ≤ i ∧ i < N := by omega
      refine zY.aload_n hO dX5_at_13 rfl ?_
      refine zY.getR zfl_X5_13 h.1 h.2.1 rfl hO dX5_at_14 ?_
      refine zY.iload_n hO dX5_at_17 rfl ?_
      refine zY.iald (i.toNat) (by omega) (by omega) h.2.2.2.2 h.2.2.1 h.2.2.2.1 hO dX5_at_18 ?_
      refine zY.goto (tgt := 23) hO dX5_at_19 (by decide) ?_
      exact zY.iret rfl ⟨_, rfl, ⟨by unfold zrat; first | rw [if_pos c] | rw [if_neg c], rfl⟩⟩ hR hO dX5_at_23

theorem ct_atN {n : Nat} {sh : Nat → zShc} {q qa N : Nat} {μ : zMem} (h : zRow n sh q qa N) {j : Nat} (hj : j < N) : Ci kX5_at 2 n sh [zP q, zI (j : Int)] μ (fun a μ' => a = μ qa j ∧ μ' = μ) :=
  (ct_X5_at h ⟨by omega, by have := h.2.2.2.2; omega⟩).imp (fun a μ' hp => ⟨by rw [hp.1, zrat_in hj], hp.2⟩)

set_option maxRecDepth 100000 in
set_option maxHeartbeats 4000000 in
theorem ct_X5_put {n : Nat} {sh : Nat → zShc} {q qa N : Nat} {μ : zMem} (h : zRow n sh q qa N) {i v : Int} (hi : zr i) : Cv kX5_put 2 n sh [zP q, zI i, zI v] μ (fun μ' => μ' = if 0 ≤ i ∧ i < N then zwr μ qa i.toNat v else μ) := by
  refine Ct.of [some (zP q), some (zI i), some (zI v)] rfl (Nat.le_of_ble_eq_true rfl) (by decide +kernel) (fun Γ ad hO hR => ?_)
  refine zY.iload_n hO dX5_put_0 rfl ?_
  refine zY.if_lt (tgt := 20) hi hO dX5_put_1 (by decide) (fun c1 => ?_) (fun c1 => ?_)
  ·
    have c : ¬ (0 ≤ i ∧ i < N) := by omega
    exact zY.vret rfl ⟨rfl, (by first | rw [if_pos c] | rw [if_neg c])⟩ hR hO dX5_put_20
  ·
    refine zY.iload_n hO dX5_put_4 rfl ?_
    refine zY.aload_n hO dX5_put_5 rfl ?_
    refine zY.getR zfl_X5_13 h.1 h.2.1 rfl hO dX5_put_6 ?_
    refine zY.alen h.2.2.1 (Or.inl h.2.2.2.1) hO dX5_put_9 ?_
    refine zY.icmp_ge (tgt := 20) hi ⟨by have := h.2.2.2.2; omega, by have := h.2.2.2.2; omega⟩ hO dX5_put_10 (by decide) (fun c10 => ?_) (fun c10 => ?_)
    ·
      have c : ¬ (0 ≤ i ∧ i < N) := by omega
      exact zY.vret rfl ⟨rfl, (by first | rw [if_pos c] | rw [if_neg c])⟩ hR hO dX5_put_20
    ·
      have c : 0 ≤ i ∧ i < N := by omega
      refine zY.aload_n hO dX5_put_13 rfl ?_
      refine zY.getR zfl_X5_13 h.1 h.2.1 rfl hO dX5_put_14 ?_
      refine zY.iload_n hO dX5_put_17 rfl ?_
      refine zY.iload_n hO dX5_put_18 rfl ?_
      refine zY.iast (i.toNat) (by omega) (by omega) h.2.2.2.2 h.2.2.1 h.2.2.2.1 hO dX5_put_19 ?_
      exact zY.vret rfl ⟨rfl, (by first | rw [if_pos c] | rw [if_neg c])⟩ hR hO dX5_put_20

theorem ct_putN {n : Nat} {sh : Nat → zShc} {q qa N : Nat} {μ : zMem} (h : zRow n sh q qa N) {j : Nat} {v : Int} (hj : j < N) : Cv kX5_put 2 n sh [zP q, zI (j : Int), zI v] μ (fun μ' => μ' = zwr μ qa j v) :=
  (ct_X5_put h ⟨by omega, by have := h.2.2.2.2; omega⟩).imp (fun μ' hp => by rw [hp, if_pos ⟨by omega, by omega⟩, Int.toNat_natCast])

set_option maxRecDepth 100000 in
set_option maxHeartbeats 4000000 in
theorem ct_X5_swap {n : Nat} {sh : Nat → zShc} {q qa N : Nat} {μ : zMem} (h : zRow n sh q qa N) {j : Nat} {v : Int} (hj : j < N) : Ci kX5_swap 3 n sh [zP q, zI (j : Int), zI v] μ (fun a μ' => a = μ qa j ∧ μ' = zwr μ qa j v) := by
  refine Ct.of [some (zP q), some (zI (j : Int)), some (zI v), none] rfl (Nat.le_of_ble_eq_true rfl) (by decide +kernel) (fun Γ ad hO hR => ?_)
  refine zY.aload_n hO dX5_swap_0 rfl ?_
  refine zY.iload_n hO dX5_swap_1 rfl ?_
  refine zY.callV1iD (ct_atN h hj) (by decide) zcal_X5_at zml_X5_19 h.1 h.2.1 rfl (Nat.le_of_ble_eq_true rfl) rfl ⟨Nat.zero_le _, Nat.zero_le _⟩ hO dX5_swap_2 ?_
  refine zY.istore3 (zc1_I _) hO dX5_swap_5 ?_
  refine zY.aload_n hO dX5_swap_6 rfl ?_
  refine zY.iload_n hO dX5_swap_7 rfl ?_
  refine zY.iload_n hO dX5_swap_8 rfl ?_
  refine zY.callV2vD (ct_putN h hj) (by decide) zcal_X5_put zml_X5_23 h.1 h.2.1 rfl (Nat.le_of_ble_eq_true rfl) rfl ⟨Nat.zero_le _, Nat.zero_le _⟩ hO dX5_swap_9 ?_
  refine zY.iload_n hO dX5_swap_12 rfl ?_
  exact zY.iret rfl ⟨_, rfl, ⟨rfl, rfl⟩⟩ hR hO dX5_swap_13

set_option maxRecDepth 100000 in
set_option maxHeartbeats 4000000 in
theorem ct_X5_add {n : Nat} {sh : Nat → zShc} {q qa N : Nat} {μ : zMem} (h : zRow n sh q qa N) {j : Nat} {v : Int} (hj : j < N) : Cv kX5_add 3 n sh [zP q, zI (j : Int), zI v] μ (fun μ' => μ' = zwr μ qa j (μ qa j + v)) := by
  refine Ct.of [some (zP q), some (zI (j : Int)), some (zI v)] rfl (Nat.le_of_ble_eq_true rfl) (by decide +kernel) (fun Γ ad hO hR => ?_)
  refine zY.aload_n hO dX5_add_0 rfl ?_
  refine zY.iload_n hO dX5_add_1 rfl ?_
  refine zY.aload_n hO dX5_add_2 rfl ?_
  refine zY.iload_n hO dX5_add_3 rfl ?_
  refine zY.callV1iD (ct_atN h hj) (by decide) zcal_X5_at zml_X5_19 h.1 h.2.1 rfl (Nat.le_of_ble_eq_true rfl) rfl ⟨Nat.zero_le _, Nat.zero_le _⟩ hO dX5_add_4 ?_
  refine zY.iload_n hO dX5_add_7 rfl ?_
  refine zY.iadd hO dX5_add_8 ?_
  refine zY.callV2vD (ct_putN h hj) (by decide) zcal_X5_put zml_X5_23 h.1 h.2.1 rfl (Nat.le_of_ble_eq_true rfl) rfl ⟨Nat.zero_le _, Nat.zero_le _⟩ hO dX5_add_9 ?_
  exact zY.vret rfl ⟨rfl, rfl⟩ hR hO dX5_add_12

set_option maxRecDepth 100000 in
set_option maxHeartbeats 4000000 in
theorem ct_X5_fillFrom {n : Nat} {sh : Nat → zShc} {q qa N : Nat} {μ : zMem} (h : zRow n sh q qa N) {f v : Int} (hf : zr f) : Cv kX5_fillFrom 3 n sh [zP q, zI f, zI v] μ (fun μ' => μ' = zrow μ qa (fun j => if f ≤ j ∧ j < N then v else μ qa j)) := by
  refine Ct.of [some (zP q), some (zI f), some (zI v), none] rfl (Nat.le_of_ble_eq_true rfl) (by decide +kernel) (fun Γ ad hO hR => ?_)
  refine zY.iconst hO dX5_fillFrom_0 ?_
  refine zY.iload_n hO dX5_fillFrom_1 rfl ?_
  refine zY.mmax ⟨by omega, by omega⟩ hf zmx_X5_7 (Nat.le_of_ble_eq_true rfl) (by decide) rfl ⟨Nat.zero_le _, Nat.zero_le _⟩ hO dX5_fillFrom_2 ?_
  obtain ⟨w, hw⟩ : ∃ w : Nat, max 0 f = (w : Int) := ⟨(max 0 f).toNat, by omega⟩
  refine zY.as hw ?_
  refine zY.istore3 (zc1_I _) hO dX5_fillFrom_5 ?_
  have L6 : ∀ i : Nat, i ≤ max N w → ∀ μ1 : zMem, w ≤ i → μ1 = zrow μ qa (fun j => if w ≤ j ∧ j < i ∧ j < N then v else μ qa j) → zY Γ (n, sh, ad, 0, 0) 6 [some (zP q), some (zI f), some (zI v), some (zI (i : Int))] [] μ1 := by
    refine zdown (max N w) (fun i hi_i ih6 => ?_)
    intro μ1 hwi hI
    refine zY.iload_n hO dX5_fillFrom_6 rfl ?_
    refine zY.aload_n hO dX5_fillFrom_7 rfl ?_
    refine zY.getR zfl_X5_13 h.1 h.2.1 rfl hO dX5_fillFrom_8 ?_
    refine zY.alen h.2.2.1 (Or.inl h.2.2.2.1) hO dX5_fillFrom_11 ?_
    refine zY.icmp_ge (tgt := 28) ⟨by omega, by have := h.2.2.2.2; have := hf.2; omega⟩ ⟨by have := h.2.2.2.2; omega, by have := h.2.2.2.2; omega⟩ hO dX5_fillFrom_12 (by decide) (fun c12 => ?_) (fun c12 => ?_)
    ·
      exact zY.vret rfl ⟨rfl, (by rw [hI]; exact zrow_congr (fun j => zif (by omega)))⟩ hR hO dX5_fillFrom_28
    ·
      refine zY.aload_n hO dX5_fillFrom_15 rfl ?_
      refine zY.getR zfl_X5_13 h.1 h.2.1 rfl hO dX5_fillFrom_16 ?_
      refine zY.iload_n hO dX5_fillFrom_19 rfl ?_
      refine zY.iload_n hO dX5_fillFrom_20 rfl ?_
      refine zY.iast (i) (by omega) (by omega) h.2.2.2.2 h.2.2.1 h.2.2.2.1 hO dX5_fillFrom_21 ?_
      refine zY.iinc3 ((i + 1 : Nat) : Int) (by omega) (zc1_I _) hO dX5_fillFrom_22 ?_
      refine zY.goto (tgt := 6) hO dX5_fillFrom_25 (by decide) ?_
      exact ih6 (by omega) _ (by omega) (by rw [hI, zwr_row]; refine zrow_congr (fun j => ?_); (repeat' split) <;> first | rfl | (exfalso; omega) | (subst_vars; rfl) | (subst_vars; exfalso; omega))
  exact L6 w (by omega) μ (Nat.le_refl _) (by rw [zrow_self]; intro j; rw [if_neg (by omega)])

set_option maxRecDepth 100000 in
set_option maxHeartbeats 4000000 in
theorem ct_X5_fill {n : Nat} {sh : Nat → zShc} {q qa N : Nat} {μ : zMem} (h : zRow n sh q qa N) {v : Int} : Cv kX5_fill 4 n sh [zP q, zI v] μ (fun μ' => μ' = zrow μ qa (fun j => if j < N then v else μ qa j)) := by
  refine Ct.of [some (zP q), some (zI v)] rfl (Nat.le_of_ble_eq_true rfl) (by decide +kernel) (fun Γ ad hO hR => ?_)
  refine zY.aload_n hO dX5_fill_0 rfl ?_
  refine zY.iconst hO dX5_fill_1 ?_
  refine zY.iload_n hO dX5_fill_2 rfl ?_
  refine zY.callV2vD (ct_X5_fillFrom h ⟨by omega, by omega⟩) (by decide) zcal_X5_fillFrom zml_X5_27 h.1 h.2.1 rfl (Nat.le_of_ble_eq_true rfl) rfl ⟨Nat.zero_le _, Nat.zero_le _⟩ hO dX5_fill_3 ?_
  exact zY.vret rfl ⟨rfl, (zrow_congr (fun j => zif (by omega)))⟩ hR hO dX5_fill_6

set_option maxRecDepth 100000 in
set_option maxHeartbeats 4000000 in
theorem ct_X5_copy {n : Nat} {sh : Nat → zShc} {q qa N : Nat} {μ : zMem} (h : zRow n sh q qa N) {r ra N2 : Nat} (h2 : zRow n sh r ra N2) (hne : qa ≠ ra) : Cv kX5_copy 3 n sh [zP q, zP r] μ (fun μ' => μ' = zrow μ qa (fun j => if j < N then zrat (μ ra) N2 j else μ qa j)) := by
  refine Ct.of [some (zP q), some (zP r), none] rfl (Nat.le_of_ble_eq_true rfl) (by decide +kernel) (fun Γ ad hO hR => ?_)
  refine zY.iconst hO dX5_copy_0 ?_
  refine zY.istore2 (zc1_P _) hO dX5_copy_1 ?_
  have L2 : ∀ i : Nat, i ≤ N → ∀ μ1 : zMem, μ1 = zrow μ qa (fun j => if j < i then zrat (μ ra) N2 j else μ qa j) → zY Γ (n, sh, ad, 0, 0) 2 [some (zP q), some (zP r), some (zI (i : Int))] [] μ1 := by
    refine zdown (N) (fun i hi_i ih2 => ?_)
    intro μ1 hI
    refine zY.iload_n hO dX5_copy_2 rfl ?_
    refine zY.aload_n hO dX5_copy_3 rfl ?_
    refine zY.getR zfl_X5_13 h.1 h.2.1 rfl hO dX5_copy_4 ?_
    refine zY.alen h.2.2.1 (Or.inl h.2.2.2.1) hO dX5_copy_7 ?_
    refine zY.icmp_ge (tgt := 28) ⟨by omega, by have := h.2.2.2.2; omega⟩ ⟨by have := h.2.2.2.2; omega, by have := h.2.2.2.2; omega⟩ hO dX5_copy_8 (by decide) (fun c8 => ?_) (fun c8 => ?_)
    ·
      exact zY.vret rfl ⟨rfl, (by rw [hI, show i = N by omega])⟩ hR hO dX5_copy_28
    ·
      refine zY.aload_n hO dX5_copy_11 rfl ?_
      refine zY.getR zfl_X5_13 h.1 h.2.1 rfl hO dX5_copy_12 ?_
      refine zY.iload_n hO dX5_copy_15 rfl ?_
      refine zY.aload_n hO dX5_copy_16 rfl ?_
      refine zY.iload_n hO dX5_copy_17 rfl ?_
      refine zY.callV1iD (ct_X5_at h2 ⟨by omega, by have := h.2.2.2.2; omega⟩) (by decide) zcal_X5_at zml_X5_19 h2.1 h2.2.1 rfl (Nat.le_of_ble_eq_true rfl) rfl ⟨Nat.zero_le _, Nat.zero_le _⟩ hO dX5_copy_18 ?_
      refine zY.iast (i) (by omega) (by omega) h.2.2.2.2 h.2.2.1 h.2.2.2.1 hO dX5_copy_21 ?_
      refine zY.iinc2 ((i + 1 : Nat) : Int) (by omega) (zc1_P _) hO dX5_copy_22 ?_
      refine zY.goto (tgt := 2) hO dX5_copy_25 (by decide) ?_
      exact ih2 (by omega) _ (by rw [hI, zrow_ne (fun z => hne z.symm), zwr_row]; refine zrow_congr (fun j => ?_); (repeat' split) <;> first | rfl | (exfalso; omega) | (subst_vars; rfl) | (subst_vars; exfalso; omega))
  exact L2 0 (by omega) μ (by rw [zrow_self]; intro j; rw [if_neg (by omega)])

set_option maxRecDepth 100000 in
set_option maxHeartbeats 4000000 in
theorem ct_X5_sum {n : Nat} {sh : Nat → zShc} {q qa N : Nat} {μ : zMem} (h : zRow n sh q qa N)  : Ci kX5_sum 1 n sh [zP q] μ (fun a μ' => a = zsum (μ qa) N ∧ μ' = μ) := by
  refine Ct.of [some (zP q), none, none] rfl (Nat.le_of_ble_eq_true rfl) (by decide +kernel) (fun Γ ad hO hR => ?_)
  refine zY.iconst hO dX5_sum_0 ?_
  refine zY.istore1 (zc1_P _) hO dX5_sum_1 ?_
  refine zY.iconst hO dX5_sum_2 ?_
  refine zY.istore2 (zc1_I _) hO dX5_sum_3 ?_
  have L4 : ∀ i : Nat, i ≤ N → zY Γ (n, sh, ad, 0, 0) 4 [some (zP q), some (zI (zsum (μ qa) i)), some (zI (i : Int))] [] μ := by
    refine zdown (N) (fun i hi_i ih4 => ?_)
    refine zY.iload_n hO dX5_sum_4 rfl ?_
    refine zY.aload_n hO dX5_sum_5 rfl ?_
    refine zY.getR zfl_X5_13 h.1 h.2.1 rfl hO dX5_sum_6 ?_
    refine zY.alen h.2.2.1 (Or.inl h.2.2.2.1) hO dX5_sum_9 ?_
    refine zY.icmp_ge (tgt := 28) ⟨by omega, by have := h.2.2.2.2; omega⟩ ⟨by have := h.2.2.2.2; omega, by have := h.2.2.2.2; omega⟩ hO dX5_sum_10 (by decide) (fun c10 => ?_) (fun c10 => ?_)
    ·
      refine zY.iload_n hO dX5_sum_28 rfl ?_
      exact zY.iret rfl ⟨_, rfl, ⟨by rw [show i = N by omega], rfl⟩⟩ hR hO dX5_sum_29
    ·
      refine zY.iload_n hO dX5_sum_13 rfl ?_
      refine zY.aload_n hO dX5_sum_14 rfl ?_
      refine zY.getR zfl_X5_13 h.1 h.2.1 rfl hO dX5_sum_15 ?_
      refine zY.iload_n hO dX5_sum_18 rfl ?_
      refine zY.iald (i) (by omega) (by omega) h.2.2.2.2 h.2.2.1 h.2.2.2.1 hO dX5_sum_19 ?_
      refine zY.iadd hO dX5_sum_20 ?_
      refine zY.istore1 (zc1_P _) hO dX5_sum_21 ?_
      refine zY.iinc2 ((i + 1 : Nat) : Int) (by omega) (zc1_I _) hO dX5_sum_22 ?_
      refine zY.goto (tgt := 4) hO dX5_sum_25 (by decide) ?_
      exact ih4 (by omega)
  exact L4 0 (by omega)
