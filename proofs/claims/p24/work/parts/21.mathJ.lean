/-! what reading is: r 0 0 entries, r 1 begins, r 2 lengths, r 3 0 how many signs, r 4 the signs, r 5 0 early, r 6 0 where the code ahead begins, r 7 0 its length (0: none), r 8 0 its number, r 9 0 reason, r 10 0 place, r 11 heads -/
def rpu (r : wS) (s : Nat) : wS := wu (wu r 4 (r 3 0) s) 3 0 (r 3 0 + 1)
def rcp (b : Nat) : Nat → Nat → wS → wS
  | 0, _, r => r
  | l + 1, i, r => rcp b l (i + 1) (rpu r (r 4 (b + i)))
def rg1 (r : wS) (c full : Nat) : wS := if 0 < r 7 0 ∧ r 0 0 < full then wu (wu (wu (wu (wu r 5 0 (r 5 0 + if c = r 0 0 then 1 else 0)) 1 (r 0 0) (r 6 0)) 2 (r 0 0) (r 7 0 + 1)) 11 (r 0 0) (r 8 0)) 0 0 (r 0 0 + 1) else wu r 5 0 (r 5 0 + if c = r 0 0 then 1 else 0)
def rg2 (r : wS) (c l : Nat) : wS := wu (wu (wu r 6 0 (r 3 0)) 8 0 c) 7 0 l
def ren (r : wS) (c full : Nat) : wS :=
  if c < 8 then rpu (rg2 (rg1 r c full) c 1) c else rcp ((rg1 r c full) 1 c) ((rg1 r c full) 2 c) 0 (rg2 (rg1 r c full) c ((rg1 r c full) 2 c))
def rst (r : wS) (c full : Nat) : Bool := decide (c < r 0 0) || (decide (c = r 0 0) && (decide (0 < r 7 0) && decide (r 0 0 < full)))
def rdr (r : wS) : wS := wu (wu r 0 0 10) 7 0 0
def rfa (r : wS) (p y : Nat) : wS := wu (wu r 10 0 p) 9 0 y
def rda (c : Nat → Nat) (n full : Nat) : Nat → wS → Nat → wS
  | 0, r, _ => r
  | d + 1, r, k => if n ≤ k then rfa r n 2 else if c k = 9 then (if k + 1 < n then rfa r (k + 1) 3 else r) else if c k = 8 then rda c n full d (rdr r) (k + 1) else if rst r (c k) full = true then rda c n full d (ren r (c k) full) (k + 1) else rfa r k 1
def r0 : wS := fun f _ => if f = 0 then 10 else 0
def rfin (c : Nat → Nat) (n full : Nat) : wS := rda c n full (n + 1) r0 0
theorem rpu_3 (r : wS) (s : Nat) : (rpu r s) 3 0 = r 3 0 + 1 := by simp [rpu, wu_s]
theorem rpu_4 (r : wS) (s i : Nat) : (rpu r s) 4 i = if i = r 3 0 then s else r 4 i := by simp [rpu, wu_o, wu_s]
theorem rpu_o (r : wS) (s : Nat) {f : Nat} (h3 : ¬ f = 3) (h4 : ¬ f = 4) : (rpu r s) f = r f := by simp [rpu, wu_o, h3, h4]
theorem rcp_3 (b : Nat) : ∀ (l i : Nat) (r : wS), (rcp b l i r) 3 0 = r 3 0 + l
  | 0, _, _ => rfl
  | l + 1, i, r => by rw [rcp, rcp_3 b l, rpu_3]; omega
theorem rcp_o (b : Nat) {f : Nat} (h3 : ¬ f = 3) (h4 : ¬ f = 4) : ∀ (l i : Nat) (r : wS), (rcp b l i r) f = r f
  | 0, _, _ => rfl
  | l + 1, i, r => by rw [rcp, rcp_o b h3 h4 l, rpu_o _ _ h3 h4]
theorem rcp_lo (b : Nat) : ∀ (l i : Nat) (r : wS) (j : Nat), j < r 3 0 → (rcp b l i r) 4 j = r 4 j
  | 0, _, _, _, _ => rfl
  | l + 1, i, r, j, h => by rw [rcp, rcp_lo b l _ _ j (by rw [rpu_3]; omega), rpu_4, if_neg (by omega)]
/-- what is copied: each place as the place from which it comes -/
theorem rcp_hi (b : Nat) : ∀ (l i : Nat) (r : wS) (j : Nat), b + i < r 3 0 → j < l → (rcp b l i r) 4 (r 3 0 + j) = (rcp b l i r) 4 (b + i + j)
  | 0, _, _, j, _, h => absurd h (Nat.not_lt_zero j)
  | l + 1, i, r, j, hb, h => by
    rw [rcp]
    cases j with
    | zero =>
      rw [rcp_lo b l _ _ _ (by rw [rpu_3]; omega), rcp_lo b l _ _ _ (by rw [rpu_3]; omega), rpu_4, if_pos (by omega), rpu_4, if_neg (by omega)]
      rfl
    | succ j =>
      have := rcp_hi b l (i + 1) (rpu r (r 4 (b + i))) j (by rw [rpu_3]; omega) (by omega)
      rw [rpu_3] at this
      rw [show r 3 0 + (j + 1) = r 3 0 + 1 + j by omega, show b + i + (j + 1) = b + (i + 1) + j by omega]
      exact this
theorem rg2_o (r : wS) (c l : Nat) {f : Nat} (h6 : ¬ f = 6) (h7 : ¬ f = 7) (h8 : ¬ f = 8) : (rg2 r c l) f = r f := by simp [rg2, wu_o, h6, h7, h8]
theorem rg2_6 (r : wS) (c l : Nat) : (rg2 r c l) 6 0 = r 3 0 := by simp [rg2, wu_o, wu_s]
theorem rg2_7 (r : wS) (c l : Nat) : (rg2 r c l) 7 0 = l := by simp [rg2, wu_s]
theorem rg2_8 (r : wS) (c l : Nat) : (rg2 r c l) 8 0 = c := by simp [rg2, wu_o, wu_s]
theorem rg1_o (r : wS) (c full : Nat) {f : Nat} (h0 : ¬ f = 0) (h1 : ¬ f = 1) (h2 : ¬ f = 2) (h5 : ¬ f = 5) (h11 : ¬ f = 11) : (rg1 r c full) f = r f := by
  unfold rg1
  by_cases h : 0 < r 7 0 ∧ r 0 0 < full
  · rw [if_pos h]; simp [wu_o, h0, h1, h2, h5, h11]
  · rw [if_neg h]; simp [wu_o, h5]
theorem rg1_0 (r : wS) (c full : Nat) : (rg1 r c full) 0 0 = if 0 < r 7 0 ∧ r 0 0 < full then r 0 0 + 1 else r 0 0 := by
  unfold rg1
  by_cases h : 0 < r 7 0 ∧ r 0 0 < full
  · rw [if_pos h, if_pos h, wu_s, if_pos rfl]
  · rw [if_neg h, if_neg h, wu_o (by decide)]
theorem rg1_1 (r : wS) (c full k : Nat) : (rg1 r c full) 1 k = if (0 < r 7 0 ∧ r 0 0 < full) ∧ k = r 0 0 then r 6 0 else r 1 k := by
  unfold rg1
  by_cases h : 0 < r 7 0 ∧ r 0 0 < full
  · rw [if_pos h]; simp [wu_o, wu_s, h]
  · have h2 : ¬ ((0 < r 7 0 ∧ r 0 0 < full) ∧ k = r 0 0) := fun q => h q.1
    rw [if_neg h, if_neg h2, wu_o (by decide)]
theorem rg1_2 (r : wS) (c full k : Nat) : (rg1 r c full) 2 k = if (0 < r 7 0 ∧ r 0 0 < full) ∧ k = r 0 0 then r 7 0 + 1 else r 2 k := by
  unfold rg1
  by_cases h : 0 < r 7 0 ∧ r 0 0 < full
  · rw [if_pos h]; simp [wu_o, wu_s, h]
  · have h2 : ¬ ((0 < r 7 0 ∧ r 0 0 < full) ∧ k = r 0 0) := fun q => h q.1
    rw [if_neg h, if_neg h2, wu_o (by decide)]
theorem rg1_11 (r : wS) (c full k : Nat) : (rg1 r c full) 11 k = if (0 < r 7 0 ∧ r 0 0 < full) ∧ k = r 0 0 then r 8 0 else r 11 k := by
  unfold rg1
  by_cases h : 0 < r 7 0 ∧ r 0 0 < full
  · rw [if_pos h]; simp [wu_o, wu_s, h]
  · have h2 : ¬ ((0 < r 7 0 ∧ r 0 0 < full) ∧ k = r 0 0) := fun q => h q.1
    rw [if_neg h, if_neg h2, wu_o (by decide)]
theorem rg1_5 (r : wS) (c full : Nat) : (rg1 r c full) 5 0 = r 5 0 + if c = r 0 0 then 1 else 0 := by
  unfold rg1
  by_cases h : 0 < r 7 0 ∧ r 0 0 < full
  · rw [if_pos h]; simp [wu_o, wu_s]
  · rw [if_neg h, wu_s, if_pos rfl]
/-- what holds of reading behind i codes -/
def lenf (r : wS) (x : Nat) : Nat := if x < 8 then 1 else r 2 x
def chf (r : wS) (x i : Nat) : Nat := if x < 8 then x else r 4 (r 1 x + i)
def RI (r : wS) (full i : Nat) : Prop := (10 ≤ r 0 0 ∧ r 0 0 ≤ full) ∧ 2 * r 3 0 ≤ i * (i + 1) ∧ r 7 0 ≤ i ∧ (0 < r 7 0 → r 6 0 + r 7 0 = r 3 0 ∧ r 8 0 < r 0 0 ∧ ¬ (r 8 0 = 8 ∨ r 8 0 = 9) ∧ lenf r (r 8 0) = r 7 0 ∧ ∀ j, j < r 7 0 → chf r (r 8 0) j = r 4 (r 6 0 + j)) ∧
  (∀ k, 10 ≤ k → k < r 0 0 → 2 ≤ r 2 k ∧ r 2 k ≤ i ∧ r 1 k + r 2 k ≤ r 3 0 ∧ r 11 k < k ∧ ¬ (r 11 k = 8 ∨ r 11 k = 9) ∧ lenf r (r 11 k) + 1 = r 2 k ∧ ∀ j, j < lenf r (r 11 k) → chf r (r 11 k) j = r 4 (r 1 k + j)) ∧ (∀ j, j < r 3 0 → r 4 j < 8) ∧ r 9 0 = 0 ∧ r 5 0 ≤ i
theorem r0_RI {full : Nat} (h : 10 ≤ full) : RI r0 full 0 := by
  refine ⟨⟨by decide, h⟩, by decide, by decide, fun q => by simp [r0] at q, fun k h1 h2 => by simp [r0] at h2; omega, fun j q => by simp [r0] at q, rfl, by decide⟩
theorem rdr_RI {r : wS} {full i : Nat} (h : RI r full i) (hf : 10 ≤ full) : RI (rdr r) full (i + 1) := by
  obtain ⟨h1, h2, h3, h4, h5, h6, h7, h8⟩ := h
  have e0 : (rdr r) 0 0 = 10 := by simp [rdr, wu_o, wu_s]
  have e7 : (rdr r) 7 0 = 0 := by simp [rdr, wu_s]
  have eo : ∀ f, ¬ f = 0 → ¬ f = 7 → (rdr r) f = r f := fun f a b => by simp [rdr, wu_o, a, b]
  unfold RI
  rw [e0, e7, eo 3 (by decide) (by decide), eo 4 (by decide) (by decide), eo 9 (by decide) (by decide), eo 5 (by decide) (by decide)]
  refine ⟨⟨by omega, hf⟩, ?_, by omega, fun q => by omega, fun k a b => by omega, h6, h7, by omega⟩
  have : i * (i + 1) ≤ (i + 1) * (i + 1 + 1) := Nat.mul_le_mul (by omega) (by omega)
  omega
