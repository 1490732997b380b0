/-! reading, by the places of what was read -/
def LR (r : wS) (pl ln : Nat → Nat) (full b g : Nat) : Prop := b ≤ g ∧ (0 < r 7 0 ↔ b < g) ∧ (b < g → r 6 0 = pl (g - 1) ∧ r 7 0 = ln (g - 1)) ∧ (∀ e, 10 ≤ e → e < r 0 0 → b + (e - 10) + 1 < g ∧ r 1 e = pl (b + (e - 10)) ∧ r 2 e = ln (b + (e - 10)) + 1) ∧ (r 0 0 < full → r 0 0 = 10 + (g - b - 1))
def lnc (r : wS) (c full : Nat) : Nat := if c < 8 then 1 else (rg1 r c full) 2 c
theorem rst_or {r : wS} {c full : Nat} (hs : rst r c full = true) : c < r 0 0 ∨ (c = r 0 0 ∧ 0 < r 7 0 ∧ r 0 0 < full) := by
  unfold rst at hs
  simp only [Bool.or_eq_true, Bool.and_eq_true, decide_eq_true_eq] at hs
  exact hs
theorem ren_o (r : wS) (c full : Nat) {f : Nat} (h3 : ¬ f = 3) (h4 : ¬ f = 4) (h6 : ¬ f = 6) (h7 : ¬ f = 7) (h8 : ¬ f = 8) : (ren r c full) f = (rg1 r c full) f := by
  unfold ren
  by_cases c8 : c < 8
  · rw [if_pos c8, rpu_o _ _ h3 h4, rg2_o _ _ _ h6 h7 h8]
  · rw [if_neg c8, rcp_o _ h3 h4, rg2_o _ _ _ h6 h7 h8]
theorem ren_6 (r : wS) (c full : Nat) : (ren r c full) 6 0 = r 3 0 := by
  unfold ren
  by_cases c8 : c < 8
  · rw [if_pos c8, rpu_o _ _ (by decide) (by decide), rg2_6, rg1_o _ _ _ (by decide) (by decide) (by decide) (by decide) (by decide)]
  · rw [if_neg c8, rcp_o _ (by decide) (by decide), rg2_6, rg1_o _ _ _ (by decide) (by decide) (by decide) (by decide) (by decide)]
theorem ren_7 (r : wS) (c full : Nat) : (ren r c full) 7 0 = lnc r c full := by
  unfold ren lnc
  by_cases c8 : c < 8
  · rw [if_pos c8, if_pos c8, rpu_o _ _ (by decide) (by decide), rg2_7]
  · rw [if_neg c8, if_neg c8, rcp_o _ (by decide) (by decide), rg2_7]
/-- where the phrase of a code lies -/
theorem LR_ph {r : wS} {pl ln : Nat → Nat} {full b g c : Nat} (h : LR r pl ln full b g) (hs : rst r c full = true) (h10 : 10 ≤ c) : b + (c - 10) < g ∧ (rg1 r c full) 1 c = pl (b + (c - 10)) ∧ (rg1 r c full) 2 c = ln (b + (c - 10)) + 1 := by
  obtain ⟨h1, h2, h3, h4, h5⟩ := h
  rw [rg1_1, rg1_2]
  rcases rst_or hs with q | ⟨q1, q2, q3⟩
  · obtain ⟨a1, a2, a3⟩ := h4 c h10 q
    rw [if_neg (by omega), if_neg (by omega)]
    exact ⟨by omega, a2, a3⟩
  · have hb := h2.mp q2
    obtain ⟨a1, a2⟩ := h3 hb
    have h0 := h5 q3
    have e : b + (c - 10) = g - 1 := by omega
    rw [if_pos ⟨⟨q2, q3⟩, q1⟩, if_pos ⟨⟨q2, q3⟩, q1⟩, e]
    exact ⟨by omega, a1, by omega⟩
theorem LR_step {r : wS} {pl ln : Nat → Nat} {full b g c i : Nat} (h : LR r pl ln full b g) (hI : RI r full i) (hc8 : ¬ c = 8) (hc9 : ¬ c = 9) (hs : rst r c full = true) : LR (ren r c full) (fun j => if j = g then r 3 0 else pl j) (fun j => if j = g then lnc r c full else ln j) full b (g + 1) := by
  have hp := LR_ph h hs
  obtain ⟨h1, h2, h3, h4, h5⟩ := h
  have hl : 0 < lnc r c full := by
    unfold lnc
    by_cases c8 : c < 8
    · rw [if_pos c8]; decide
    · rw [if_neg c8, (hp (by omega)).2.2]; omega
  unfold LR
  rw [ren_6, ren_7, ren_o r c full (f := 0) (by decide) (by decide) (by decide) (by decide) (by decide), ren_o r c full (f := 1) (by decide) (by decide) (by decide) (by decide) (by decide), ren_o r c full (f := 2) (by decide) (by decide) (by decide) (by decide) (by decide)]
  refine ⟨by omega, ⟨fun _ => by omega, fun _ => hl⟩, fun _ => ?_, fun e e1 e2 => ?_, fun q => ?_⟩
  · rw [Nat.add_sub_cancel]
    exact ⟨(if_pos rfl).symm, (if_pos rfl).symm⟩
  · rw [rg1_0] at e2
    rw [rg1_1, rg1_2]
    show _ ∧ _ = (if b + (e - 10) = g then r 3 0 else pl (b + (e - 10))) ∧ _ = (if b + (e - 10) = g then lnc r c full else ln (b + (e - 10))) + 1
    by_cases cn : (0 < r 7 0 ∧ r 0 0 < full) ∧ e = r 0 0
    · have hb := h2.mp cn.1.1
      obtain ⟨a1, a2⟩ := h3 hb
      have h0 := h5 cn.1.2
      have ee : b + (e - 10) = g - 1 := by omega
      rw [if_pos cn, if_pos cn, ee]
      have ng : ¬ g - 1 = g := by omega
      exact ⟨by omega, by rw [if_neg ng]; exact a1, by rw [if_neg ng]; omega⟩
    · have he : e < r 0 0 := by
        by_cases z : 0 < r 7 0 ∧ r 0 0 < full
        · rw [if_pos z] at e2
          by_cases ze : e = r 0 0
          · exact absurd ⟨z, ze⟩ cn
          · omega
        · rw [if_neg z] at e2; exact e2
      obtain ⟨a1, a2, a3⟩ := h4 e e1 he
      have ng : ¬ b + (e - 10) = g := by omega
      rw [if_neg cn, if_neg cn, if_neg ng, if_neg ng]
      exact ⟨by omega, a2, a3⟩
  · rw [rg1_0] at q ⊢
    by_cases z : 0 < r 7 0 ∧ r 0 0 < full
    · rw [if_pos z] at q ⊢
      have := h5 z.2
      have hb := h2.mp z.1
      omega
    · rw [if_neg z] at q ⊢
      have h7 : ¬ 0 < r 7 0 := fun y => z ⟨y, q⟩
      have hb : ¬ b < g := fun y => h7 (h2.mpr y)
      have := h5 q
      omega
theorem LR_clear {r : wS} {pl ln : Nat → Nat} {full b g : Nat} (h : LR r pl ln full b g) : LR (rdr r) pl ln full g g := by
  have e0 : (rdr r) 0 0 = 10 := by simp [rdr, wu_o, wu_s]
  have e7 : (rdr r) 7 0 = 0 := by simp [rdr, wu_s]
  unfold LR
  rw [e0, e7]
  exact ⟨Nat.le_refl _, ⟨fun q => by omega, fun q => by omega⟩, fun q => by omega, fun e e1 e2 => by omega, fun _ => by omega⟩
theorem LR_start (full : Nat) : LR r0 (fun _ => 0) (fun _ => 0) full 0 0 :=
  ⟨Nat.le_refl _, ⟨fun q => absurd q (by decide), fun q => absurd q (by decide)⟩, fun q => absurd q (by decide), fun e e1 e2 => absurd e2 (by show ¬ e < 10; omega), fun _ => rfl⟩
/-- what was read stays -/
def RK (r r' : wS) : Prop := r 3 0 ≤ r' 3 0 ∧ ∀ j, j < r 3 0 → r' 4 j = r 4 j
theorem RK.rf (r : wS) : RK r r := ⟨Nat.le_refl _, fun _ _ => rfl⟩
theorem RK.tr {r r' r'' : wS} (h : RK r r') (h2 : RK r' r'') : RK r r'' := ⟨Nat.le_trans h.1 h2.1, fun j hj => (h2.2 j (by have := h.1; omega)).trans (h.2 j hj)⟩
theorem RK_rfa (r : wS) (p y : Nat) : RK r (rfa r p y) := by
  unfold RK
  rw [rfa_o _ _ _ (show ¬ 3 = 9 by decide) (show ¬ 3 = 10 by decide), rfa_o _ _ _ (show ¬ 4 = 9 by decide) (show ¬ 4 = 10 by decide)]
  exact RK.rf r
theorem RK_rdr (r : wS) : RK r (rdr r) := by
  have e3 : (rdr r) 3 = r 3 := by simp [rdr, wu_o]
  have e4 : (rdr r) 4 = r 4 := by simp [rdr, wu_o]
  unfold RK
  rw [e3, e4]
  exact RK.rf r
theorem RK_ren {r : wS} {full i c : Nat} (h : RI r full i) (hc8 : ¬ c = 8) (hc9 : ¬ c = 9) (hs : rst r c full = true) : RK r (ren r c full) := by
  obtain ⟨g1, g2, g3, g4⟩ := ren_RI h hc8 hc9 hs
  exact ⟨by rw [g2]; omega, g4⟩
theorem rda_keep {c : Nat → Nat} {n full : Nat} (hf : 10 ≤ full) : ∀ (d : Nat) (r : wS) (k : Nat), RI r full k → RK r (rda c n full d r k)
  | 0, r, k, h => RK.rf r
  | d + 1, r, k, h => by
    rw [rda]
    by_cases h1 : n ≤ k
    · rw [if_pos h1]; exact RK_rfa _ _ _
    · rw [if_neg h1]
      by_cases h2 : c k = 9
      · rw [if_pos h2]
        by_cases h3 : k + 1 < n
        · rw [if_pos h3]; exact RK_rfa _ _ _
        · rw [if_neg h3]; exact RK.rf r
      · rw [if_neg h2]
        by_cases h4 : c k = 8
        · rw [if_pos h4]; exact (RK_rdr r).tr (rda_keep hf d _ _ (rdr_RI h hf))
        · rw [if_neg h4]
          by_cases h5 : rst r (c k) full = true
          · rw [if_pos h5]; exact (RK_ren h h4 h2 h5).tr (rda_keep hf d _ _ (ren_RI h h4 h2 h5).1)
          · rw [if_neg h5]; exact RK_rfa _ _ _
/-- what a code stands for, in what was read -/
theorem ren_copy {r : wS} {full i c : Nat} (h : RI r full i) (hc8 : ¬ c = 8) (hc9 : ¬ c = 9) (hs : rst r c full = true) : (ren r c full) 3 0 = r 3 0 + lnc r c full ∧ (c < 8 → (ren r c full) 4 (r 3 0) = c) ∧ (¬ c < 8 → ∀ j, j < lnc r c full → (ren r c full) 4 (r 3 0 + j) = (ren r c full) 4 ((rg1 r c full) 1 c + j)) ∧ (¬ c < 8 → (rg1 r c full) 1 c + lnc r c full ≤ r 3 0 + 1) := by
  obtain ⟨g1, g2, g3, g4⟩ := ren_RI h hc8 hc9 hs
  have e3 : (rg1 r c full) 3 = r 3 := rg1_o _ _ _ (by decide) (by decide) (by decide) (by decide) (by decide)
  refine ⟨g2, fun q => ?_, fun q j hj => ?_, fun q => ?_⟩
  · unfold ren
    rw [if_pos q, rpu_4, rg2_o _ _ _ (by decide) (by decide) (by decide), e3, if_pos rfl]
  · obtain ⟨a1, a2, a3, a4, a5, a6, a7⟩ := g3 q
    unfold lnc at hj
    rw [if_neg q] at hj
    have hg : (rg2 (rg1 r c full) c ((rg1 r c full) 2 c)) 3 0 = r 3 0 := by rw [rg2_o _ _ _ (by decide) (by decide) (by decide), e3]
    have := rcp_hi ((rg1 r c full) 1 c) ((rg1 r c full) 2 c) 0 (rg2 (rg1 r c full) c ((rg1 r c full) 2 c)) j (by rw [hg]; omega) hj
    rw [hg, Nat.add_zero] at this
    unfold ren
    rw [if_neg q]
    exact this
  · obtain ⟨a1, a2, a3, a4, a5, a6, a7⟩ := g3 q
    unfold lnc
    rw [if_neg q]
    exact a6
