/-- a code that can stand keeps the picture -/
theorem ren_RI {r : wS} {full i c : Nat} (h : RI r full i) (hc8 : ¬ c = 8) (hc9 : ¬ c = 9) (hs : rst r c full = true) : RI (ren r c full) full (i + 1) ∧ (ren r c full) 3 0 = r 3 0 + (if c < 8 then 1 else (rg1 r c full) 2 c) ∧
    (¬ c < 8 → 10 ≤ c ∧ c < (rg1 r c full) 0 0 ∧ 1 ≤ (rg1 r c full) 2 c ∧ (rg1 r c full) 2 c ≤ i + 1 ∧ (rg1 r c full) 1 c < r 3 0 ∧ (rg1 r c full) 1 c + (rg1 r c full) 2 c ≤ r 3 0 + 1 ∧ (c = r 0 0 → (0 < r 7 0 ∧ r 0 0 < full))) ∧ (∀ j, j < r 3 0 → (ren r c full) 4 j = r 4 j) := by
  obtain ⟨⟨h1, h1'⟩, h2, h3, h4, h5, h6, h7, h8⟩ := h
  have hst : c < r 0 0 ∨ (c = r 0 0 ∧ 0 < r 7 0 ∧ r 0 0 < full) := by
    unfold rst at hs
    simp only [Bool.or_eq_true, Bool.and_eq_true, decide_eq_true_eq] at hs
    exact hs
  -- the phrase that is added
  have hnew : (0 < r 7 0 ∧ r 0 0 < full) → 0 < r 7 0 ∧ r 6 0 + r 7 0 = r 3 0 := fun q => ⟨q.1, (h4 q.1).1⟩
  have hbig : ¬ c < 8 → 10 ≤ c ∧ c < (rg1 r c full) 0 0 ∧ 1 ≤ (rg1 r c full) 2 c ∧ (rg1 r c full) 2 c ≤ i + 1 ∧ (rg1 r c full) 1 c < r 3 0 ∧ (rg1 r c full) 1 c + (rg1 r c full) 2 c ≤ r 3 0 + 1 ∧ (c = r 0 0 → (0 < r 7 0 ∧ r 0 0 < full)) := by
    intro hc
    have h10 : 10 ≤ c := by omega
    rw [rg1_0, rg1_1, rg1_2]
    by_cases he : c = r 0 0
    · have hg : 0 < r 7 0 ∧ r 0 0 < full := by rcases hst with q | q; exact absurd he (by omega); exact q.2
      obtain ⟨n1, n2⟩ := hnew hg
      rw [if_pos hg, if_pos ⟨hg, he⟩, if_pos ⟨hg, he⟩]
      exact ⟨h10, by omega, by omega, by omega, by omega, by omega, fun _ => hg⟩
    · have hlt : c < r 0 0 := by rcases hst with q | q; exact q; exact absurd q.1 he
      obtain ⟨g1, g2, g3, -⟩ := h5 c h10 hlt
      have hn : ¬ ((0 < r 7 0 ∧ r 0 0 < full) ∧ c = r 0 0) := fun q => he q.2
      rw [if_neg hn, if_neg hn]
      refine ⟨h10, ?_, by omega, by omega, by omega, by omega, fun q => absurd q he⟩
      by_cases hg : 0 < r 7 0 ∧ r 0 0 < full
      · rw [if_pos hg]; omega
      · rw [if_neg hg]; exact hlt
  -- how many signs, and that the old ones stay
  have hg3 : ∀ l, (rg2 (rg1 r c full) c l) 3 = r 3 := fun l => by rw [rg2_o _ _ _ (by decide) (by decide) (by decide), rg1_o _ _ _ (by decide) (by decide) (by decide) (by decide) (by decide)]
  have hg4 : ∀ l, (rg2 (rg1 r c full) c l) 4 = r 4 := fun l => by rw [rg2_o _ _ _ (by decide) (by decide) (by decide), rg1_o _ _ _ (by decide) (by decide) (by decide) (by decide) (by decide)]
  have hcnt : (ren r c full) 3 0 = r 3 0 + (if c < 8 then 1 else (rg1 r c full) 2 c) := by
    unfold ren
    by_cases hc : c < 8
    · rw [if_pos hc, if_pos hc, rpu_3, hg3]
    · rw [if_neg hc, if_neg hc, rcp_3, hg3]
  have hlo : ∀ j, j < r 3 0 → (ren r c full) 4 j = r 4 j := by
    intro j hj
    unfold ren
    by_cases hc : c < 8
    · rw [if_pos hc, rpu_4, hg3, if_neg (by omega), hg4]
    · rw [if_neg hc, rcp_lo _ _ _ _ _ (by rw [hg3]; exact hj), hg4]
  have hhi : ¬ c < 8 → ∀ j, j < (rg1 r c full) 2 c → (ren r c full) 4 (r 3 0 + j) = (ren r c full) 4 ((rg1 r c full) 1 c + j) := by
    intro hc j hj
    have hb := (hbig hc).2.2.2.2.1
    have := rcp_hi ((rg1 r c full) 1 c) ((rg1 r c full) 2 c) 0 (rg2 (rg1 r c full) c ((rg1 r c full) 2 c)) j (by rw [hg3]; omega) hj
    rw [hg3] at this
    unfold ren
    rw [if_neg hc]
    exact this
  have hsg : c < 8 → (ren r c full) 4 (r 3 0) = c := by
    intro hc
    unfold ren
    rw [if_pos hc, rpu_4, hg3, if_pos rfl]
  have ho : ∀ f, ¬ f = 3 → ¬ f = 4 → ¬ f = 6 → ¬ f = 7 → ¬ f = 8 → (ren r c full) f = (rg1 r c full) f := by
    intro f a b d e g
    unfold ren
    by_cases hc : c < 8
    · rw [if_pos hc, rpu_o _ _ a b, rg2_o _ _ _ d e g]
    · rw [if_neg hc, rcp_o _ a b, rg2_o _ _ _ d e g]
  have h6' : (ren r c full) 6 0 = r 3 0 := by
    unfold ren
    by_cases hc : c < 8
    · rw [if_pos hc, rpu_o _ _ (by decide) (by decide), rg2_6, rg1_o _ _ _ (by decide) (by decide) (by decide) (by decide) (by decide)]
    · rw [if_neg hc, rcp_o _ (by decide) (by decide), rg2_6, rg1_o _ _ _ (by decide) (by decide) (by decide) (by decide) (by decide)]
  have h7' : (ren r c full) 7 0 = if c < 8 then 1 else (rg1 r c full) 2 c := by
    unfold ren
    by_cases hc : c < 8
    · rw [if_pos hc, if_pos hc, rpu_o _ _ (by decide) (by decide), rg2_7]
    · rw [if_neg hc, if_neg hc, rcp_o _ (by decide) (by decide), rg2_7]
  have h8' : (ren r c full) 8 0 = c := by
    unfold ren
    by_cases hc : c < 8
    · rw [if_pos hc, rpu_o _ _ (by decide) (by decide), rg2_8]
    · rw [if_neg hc, rcp_o _ (by decide) (by decide), rg2_8]
  have hall : ∀ j, j < (ren r c full) 3 0 → (ren r c full) 4 j < 8 := by
    have key : ∀ j, j < r 3 0 → (ren r c full) 4 j < 8 := fun j hj => by rw [hlo j hj]; exact h6 j hj
    by_cases hc : c < 8
    · intro j hj
      rw [hcnt, if_pos hc] at hj
      by_cases hj2 : j < r 3 0
      · exact key j hj2
      · have : j = r 3 0 := by omega
        rw [this, hsg hc]; exact hc
    · have hb := hbig hc
      intro j hj
      rw [hcnt, if_neg hc] at hj
      by_cases hj2 : j < r 3 0
      · exact key j hj2
      · obtain ⟨t, rfl⟩ : ∃ t, j = r 3 0 + t := ⟨j - r 3 0, by omega⟩
        rw [hhi hc t (by omega)]
        by_cases ht : (rg1 r c full) 1 c + t < r 3 0
        · exact key _ ht
        · have e1 : (rg1 r c full) 1 c + t = r 3 0 + 0 := by omega
          rw [e1, hhi hc 0 (by omega)]
          exact key _ (by omega)
  refine ⟨⟨?_, ?_, ?_, ?_, ?_, hall, ?_, ?_⟩, hcnt, hbig, hlo⟩
  · rw [ho 0 (by decide) (by decide) (by decide) (by decide) (by decide), rg1_0]
    by_cases hg : 0 < r 7 0 ∧ r 0 0 < full
    · rw [if_pos hg]; omega
    · rw [if_neg hg]; exact ⟨h1, h1'⟩
  · rw [hcnt]
    have e1 : (i + 1) * (i + 1 + 1) = i * (i + 1) + 2 * (i + 1) := by
      rw [Nat.add_mul, Nat.mul_add, Nat.mul_add]; omega
    by_cases hc : c < 8
    · rw [if_pos hc]; omega
    · rw [if_neg hc]
      have := (hbig hc).2.2.2.1
      omega
  · rw [h7']
    by_cases hc : c < 8
    · rw [if_pos hc]; omega
    · rw [if_neg hc]; exact (hbig hc).2.2.2.1
  · intro _
    rw [h6', h7', h8', hcnt, ho 0 (by decide) (by decide) (by decide) (by decide) (by decide)]
    refine ⟨rfl, ?_, by omega, ?_, ?_⟩
    · by_cases hc : c < 8
      · rw [rg1_0]
        by_cases hg : 0 < r 7 0 ∧ r 0 0 < full
        · rw [if_pos hg]; omega
        · rw [if_neg hg]; omega
      · exact (hbig hc).2.1
    · unfold lenf
      rw [ho 2 (by decide) (by decide) (by decide) (by decide) (by decide)]
    · intro j hj
      unfold chf
      by_cases hc : c < 8
      · rw [if_pos hc] at hj ⊢
        have : j = 0 := by omega
        subst this
        exact (hsg hc).symm
      · rw [if_neg hc] at hj ⊢
        rw [ho 1 (by decide) (by decide) (by decide) (by decide) (by decide)]
        exact (hhi hc j hj).symm
  · intro k hk1 hk2
    rw [ho 0 (by decide) (by decide) (by decide) (by decide) (by decide), rg1_0] at hk2
    unfold lenf chf
    rw [ho 1 (by decide) (by decide) (by decide) (by decide) (by decide), ho 2 (by decide) (by decide) (by decide) (by decide) (by decide), ho 11 (by decide) (by decide) (by decide) (by decide) (by decide)]
    have hmore : r 3 0 + 1 ≤ (ren r c full) 3 0 := by
      rw [hcnt]
      by_cases hc : c < 8
      · rw [if_pos hc]; omega
      · rw [if_neg hc]
        have := (hbig hc).2.2.1
        omega
    by_cases hnk : (0 < r 7 0 ∧ r 0 0 < full) ∧ k = r 0 0
    · obtain ⟨hg, rfl⟩ := hnk
      obtain ⟨a1, a2, a3, a4, a5⟩ := h4 hg.1
      have hn8 : ¬ ((0 < r 7 0 ∧ r 0 0 < full) ∧ r 8 0 = r 0 0) := fun q => by omega
      rw [rg1_1, rg1_2, rg1_11, if_pos ⟨hg, rfl⟩, if_pos ⟨hg, rfl⟩, if_pos ⟨hg, rfl⟩, rg1_1, rg1_2, if_neg hn8, if_neg hn8]
      unfold lenf at a4
      unfold chf at a5
      refine ⟨by omega, by omega, by omega, a2, a3, by rw [a4], ?_⟩
      intro j hj
      rw [a4] at hj
      rw [hlo (r 6 0 + j) (by omega), ← a5 j hj]
      by_cases h88 : r 8 0 < 8
      · rw [if_pos h88, if_pos h88]
      · rw [if_neg h88, if_neg h88]
        rw [if_neg h88] at a4
        have := h5 (r 8 0) (by omega) a2
        exact hlo _ (by omega)
    · have hk3 : k < r 0 0 := by
        by_cases hg : 0 < r 7 0 ∧ r 0 0 < full
        · rw [if_pos hg] at hk2
          have : ¬ k = r 0 0 := fun q => hnk ⟨hg, q⟩
          omega
        · rw [if_neg hg] at hk2; exact hk2
      obtain ⟨g1, g2, g3, g4, g5, g6, g7⟩ := h5 k hk1 hk3
      have hn11 : ¬ ((0 < r 7 0 ∧ r 0 0 < full) ∧ r 11 k = r 0 0) := fun q => by omega
      rw [rg1_1, rg1_2, rg1_11, if_neg hnk, if_neg hnk, if_neg hnk, rg1_1, rg1_2, if_neg hn11, if_neg hn11]
      unfold lenf at g6 g7
      unfold chf at g7
      refine ⟨g1, by omega, by omega, g4, g5, g6, ?_⟩
      intro j hj
      rw [hlo (r 1 k + j) (by omega), ← g7 j hj]
      by_cases h88 : r 11 k < 8
      · rw [if_pos h88, if_pos h88]
      · rw [if_neg h88, if_neg h88]
        rw [if_neg h88] at hj
        have := h5 (r 11 k) (by omega) (by omega)
        exact hlo _ (by omega)
  · rw [ho 9 (by decide) (by decide) (by decide) (by decide) (by decide), rg1_o _ _ _ (by decide) (by decide) (by decide) (by decide) (by decide)]
    exact h7
  · rw [ho 5 (by decide) (by decide) (by decide) (by decide) (by decide), rg1_5]
    by_cases he : c = r 0 0
    · rw [if_pos he]; omega
    · rw [if_neg he]; omega
