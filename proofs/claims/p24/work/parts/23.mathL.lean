/-! the reader of the class -/
def PR (o t o' : Nat) : Bool := decide (o' = o) && decide (t ∈ [3, 19, 20, 21])
/-- what the reader holds, but for reason and place -/
def CR (S : xSt) (o : Nat) (r : wS) : Prop := S 3 o 1 = nI (r 3 0) ∧ S 3 o 2 = nI (r 0 0) ∧ S 3 o 3 = nI (r 5 0) ∧ (∀ k, 10 ≤ k → k < r 0 0 → S 20 o k = nI (r 1 k) ∧ S 21 o k = nI (r 2 k)) ∧ (0 < r 7 0 → S 3 o 9 = nI (r 6 0)) ∧ S 3 o 10 = nI (r 7 0) ∧ ∀ i, i < r 3 0 → S 19 o i = nI (r 4 i)
/-- reason and place, and how big a book may be: between two codes -/
def CQ (S : xSt) (o full : Nat) : Prop := S 3 o 4 = -6 ∧ S 3 o 5 = 0 ∧ S 3 o 8 = nI full
theorem f3_readSign_ok {S : xSt} {o s : Nat} {r : wS} (h1 : S 3 o 1 = nI (r 3 0)) (h19 : ∀ i, i < r 3 0 → S 19 o i = nI (r 4 i)) (hg : r 3 0 < 39621) :
    ∃ S', f3_readSign S o (nI s) = some (S', none) ∧ S' 3 o 1 = nI ((rpu r s) 3 0) ∧ (∀ i, i < (rpu r s) 3 0 → S' 19 o i = nI ((rpu r s) 4 i)) ∧ (∀ i, ¬ i = 1 → S' 3 o i = S 3 o i) ∧ (∀ t, ¬ t = 3 → ¬ t = 19 → S' t = S t) ∧ Fr (PR o) S S' := by
  have hn : ¬ ((39621 : Int32) ≤ nI (r 3 0)) := nI_ge (a := r 3 0) (b := 39621) hg (by decide)
  refine ⟨xup (xup S 19 o (r 3 0) (nI s)) 3 o 1 (nI (r 3 0) + 1), ?_, ?_, ?_, ?_, ?_, ?_⟩
  · unfold f3_readSign
    rw [h1, if_neg hn, xat_ok hg (by decide), xlet_eq, xup_o (by decide), h1, xlet_eq]
  · rw [xup_s, if_pos rfl, rpu_3, nI_1]
  · intro i hi
    rw [rpu_3] at hi
    rw [xup_o (by decide), xup_s, rpu_4]
    by_cases c : i = r 3 0
    · rw [if_pos c, if_pos c]
    · rw [if_neg c, if_neg c]; exact h19 i (by omega)
  · intro i hi
    rw [xup_s, if_neg hi, xup_o (by decide)]
  · intro t h3 h19
    rw [xup_o h3, xup_o h19]
  · exact (Fr.rf.up (by simp [PR])).up (by simp [PR])
theorem f3_phrase_loop {o b len : Nat} : ∀ (l f i : Nat) (S : xSt) (r : wS), i + l = len → l < f → S 3 o 1 = nI (r 3 0) → (∀ j, j < r 3 0 → S 19 o j = nI (r 4 j)) → r 3 0 + l ≤ 39621 → b + i < r 3 0 →
    ∃ S', f3_readPhrase_L2 o f S (nI b) (nI len) (nI (b + i)) = some (S', none) ∧ S' 3 o 1 = nI ((rcp b l i r) 3 0) ∧ (∀ j, j < (rcp b l i r) 3 0 → S' 19 o j = nI ((rcp b l i r) 4 j)) ∧ (∀ j, ¬ j = 1 → S' 3 o j = S 3 o j) ∧ (∀ t, ¬ t = 3 → ¬ t = 19 → S' t = S t) ∧ Fr (PR o) S S'
  | l, 0, _, _, _, _, h, _, _, _, _ => absurd h (Nat.not_lt_zero l)
  | 0, f + 1, i, S, r, h1, h2, h3, h4, h5, h6 => by
    refine ⟨S, ?_, h3, h4, fun _ _ => rfl, fun _ _ _ => rfl, Fr.rf⟩
    show b3_readPhrase_L2 o (f3_readPhrase_L2 o f) S (nI b) (nI len) (nI (b + i)) = _
    unfold b3_readPhrase_L2
    rw [nI_add, if_pos (nI_le (by omega) (by omega))]
  | l + 1, f + 1, i, S, r, h1, h2, h3, h4, h5, h6 => by
    show ∃ S', b3_readPhrase_L2 o (f3_readPhrase_L2 o f) S (nI b) (nI len) (nI (b + i)) = _ ∧ _
    obtain ⟨S1, e1, g1, g2, g3, g4, g5⟩ := f3_readSign_ok (s := r 4 (b + i)) h3 h4 (by omega)
    obtain ⟨S2, e2, k1, k2, k3, k4, k5⟩ := f3_phrase_loop (o := o) (b := b) (len := len) l f (i + 1) S1 (rpu r (r 4 (b + i))) (by omega) (by omega) g1 g2 (by rw [rpu_3]; omega) (by rw [rpu_3]; omega)
    refine ⟨S2, ?_, k1, k2, fun j hj => (k3 j hj).trans (g3 j hj), fun t a c => (k4 t a c).trans (g4 t a c), g5.tr k5⟩
    unfold b3_readPhrase_L2
    rw [nI_add, if_neg (nI_ge (by omega) (by omega)), h3, if_neg (nI_ge h6 (by omega)), xat_ok (by omega) (by decide), h4 (b + i) h6, e1]
    simp only [xbV]
    rw [nI_1]
    exact e2
theorem f3_canGrow_ok {S : xSt} {o full : Nat} {r : wS} (h10 : S 3 o 10 = nI (r 7 0)) (h8 : S 3 o 8 = nI full) (h2 : S 3 o 2 = nI (r 0 0)) (hf : full ≤ 512) (he : r 0 0 ≤ full) (h7 : r 7 0 < 2 ^ 30) : f3_canGrow S o = some (S, some (.int (if 0 < r 7 0 ∧ r 0 0 < full then 1 else 0))) := by
  unfold f3_canGrow
  rw [h10, h8, h2]
  by_cases c1 : 0 < r 7 0
  · rw [if_neg (nI_nle c1 (by omega))]
    by_cases c2 : r 0 0 < full
    · have h512 : ¬ ((512 : Int32) ≤ nI (r 0 0)) := nI_ge (a := r 0 0) (b := 512) (by omega) (by decide)
      rw [if_neg (nI_ge c2 (by omega)), if_neg h512, if_pos ⟨c1, c2⟩]
      rfl
    · rw [if_pos (nI_le (by omega) (by omega)), if_neg (fun q => c2 q.2)]
      rfl
  · rw [show r 7 0 = 0 by omega, if_pos (show nI 0 ≤ 0 by decide), if_neg (by omega)]
    rfl
theorem f3_canStand_ok {S : xSt} {o full c : Nat} {r : wS} (h10 : S 3 o 10 = nI (r 7 0)) (h8 : S 3 o 8 = nI full) (h2 : S 3 o 2 = nI (r 0 0)) (hf : full ≤ 512) (he : r 0 0 ≤ full) (h7 : r 7 0 < 2 ^ 30) (hc : c < 2 ^ 30) : f3_canStand S o (nI c) = some (S, some (.int (if rst r c full = true then 1 else 0))) := by
  unfold f3_canStand rst
  rw [if_neg (nI_pos (by omega)), h2]
  by_cases c1 : c < r 0 0
  · rw [if_pos (nI_lt c1 (by omega)), if_pos (by simp [c1])]
    rfl
  · rw [if_neg (nI_nlt (by omega) (by omega))]
    by_cases c2 : c = r 0 0
    · have e1 : nI c = nI (r 0 0) := by rw [c2]
      rw [if_pos e1, f3_canGrow_ok h10 h8 h2 hf he h7]
      simp only [xbI]
      by_cases c3 : 0 < r 7 0 ∧ r 0 0 < full
      · rw [if_pos c3, if_neg (by decide), if_pos (by simp [c2, c3])]
        rfl
      · rw [if_neg c3, if_pos rfl, if_neg (by
          simp only [Bool.or_eq_true, Bool.and_eq_true, decide_eq_true_eq]
          rintro (q | q)
          · exact c1 q
          · exact c3 q.2)]
        rfl
    · have e1 : ¬ nI c = nI (r 0 0) := fun q => c2 (nI_inj (by omega) (by omega) q)
      rw [if_neg e1, if_neg (by simp [c1, c2])]
      rfl
theorem f3_J67_ok {S : xSt} {o c full i : Nat} {r : wS} (hC : CR S o (rg1 r c full)) (hQ : CQ S o full) (h10 : ¬ c = 8) (h9 : ¬ c = 9) (hr3 : (rg1 r c full) 3 = r 3)
    (hbig : ¬ c < 8 → 10 ≤ c ∧ c < (rg1 r c full) 0 0 ∧ 1 ≤ (rg1 r c full) 2 c ∧ (rg1 r c full) 2 c ≤ i + 1 ∧ (rg1 r c full) 1 c < r 3 0) (hg : r 3 0 + (i + 1) ≤ 39621) (h512 : (rg1 r c full) 0 0 ≤ 512) :
    ∃ S', f3_readEntry_J67 o S (nI c) = some (S', none) ∧ CR S' o (ren r c full) ∧ CQ S' o full ∧ Fr (PR o) S S' := by
  obtain ⟨c1, c2, c3, c4, c5, c6, c7⟩ := hC
  have h8 : ((8 : Int32) ≤ nI c) ↔ 8 ≤ c := by
    by_cases hc : c < 8
    · exact nI_leI (a := 8) (b := c) (by decide) (by omega)
    · exact nI_leI (a := 8) (b := c) (by decide) (by have := (hbig hc).2.1; omega)
  unfold f3_readEntry_J67 ren
  rw [xlet_eq]
  by_cases hc : c < 8
  · rw [if_neg (fun q => by have := h8.mp q; omega), if_pos hc, xlet_eq]
    obtain ⟨S1, e1, g1, g2, g3, g4, g5⟩ := f3_readSign_ok (o := o) (s := c) (S := xup (xup S 3 o 9 (S 3 o 1)) 3 o 10 1) (r := rg2 (rg1 r c full) c 1) (by rw [xup_s, if_neg (by decide), xup_s, if_neg (by decide), rg2_o _ _ _ (by decide) (by decide) (by decide)]; exact c1) (by
      rw [xup_o (by decide), xup_o (by decide), rg2_o _ _ _ (by decide) (by decide) (by decide), rg2_o _ _ _ (by decide) (by decide) (by decide)]
      exact c7) (by rw [rg2_o _ _ _ (by decide) (by decide) (by decide), hr3]; omega)
    have hx : ∀ j, ¬ j = 1 → S1 3 o j = if j = 10 then 1 else if j = 9 then S 3 o 1 else S 3 o j := fun j hj => by rw [g3 j hj, xup_s, xup_s]
    have ht : ∀ t, ¬ t = 3 → ¬ t = 19 → S1 t = S t := fun t a b => by rw [g4 t a b, xup_o a, xup_o a]
    refine ⟨S1, ?_, ⟨g1, ?_, ?_, ?_, ?_, ?_, g2⟩, ⟨?_, ?_, ?_⟩, ((Fr.rf.up (by simp [PR])).up (by simp [PR])).tr g5⟩
    · rw [e1]; rfl
    · rw [hx 2 (by decide), if_neg (by decide), if_neg (by decide), rpu_o _ _ (by decide) (by decide), rg2_o _ _ _ (by decide) (by decide) (by decide)]; exact c2
    · rw [hx 3 (by decide), if_neg (by decide), if_neg (by decide), rpu_o _ _ (by decide) (by decide), rg2_o _ _ _ (by decide) (by decide) (by decide)]; exact c3
    · rw [ht 20 (by decide) (by decide), ht 21 (by decide) (by decide), rpu_o _ _ (by decide) (by decide), rpu_o _ _ (by decide) (by decide), rpu_o _ _ (by decide) (by decide), rg2_o _ _ _ (by decide) (by decide) (by decide), rg2_o _ _ _ (by decide) (by decide) (by decide), rg2_o _ _ _ (by decide) (by decide) (by decide)]
      exact c4
    · intro _
      rw [hx 9 (by decide), if_neg (by decide), if_pos rfl, rpu_o _ _ (by decide) (by decide), rg2_6]
      exact c1
    · rw [hx 10 (by decide), if_pos rfl, rpu_o _ _ (by decide) (by decide), rg2_7]; rfl
    · rw [hx 4 (by decide), if_neg (by decide), if_neg (by decide)]; exact hQ.1
    · rw [hx 5 (by decide), if_neg (by decide), if_neg (by decide)]; exact hQ.2.1
    · rw [hx 8 (by decide), if_neg (by decide), if_neg (by decide)]; exact hQ.2.2
  · obtain ⟨b1, b2, b3, b4, b5⟩ := hbig hc
    obtain ⟨k1, k2⟩ := c4 c b1 b2
    have hlen : nI ((rg1 r c full) 2 c) = nI ((rg1 r c full) 2 c) := rfl
    rw [if_pos (h8.mpr (by omega)), if_neg hc, xat_ok (by omega) (by decide), xup_o (by decide), k2, xlet_eq, xat_ok (by omega) (by decide), xat_ok (by omega) (by decide), xup_o (by decide), xup_o (by decide), k1, xup_o (by decide), xup_o (by decide), k2]
    obtain ⟨S1, e1, g1, g2, g3, g4, g5⟩ := f3_phrase_loop (o := o) (b := (rg1 r c full) 1 c) (len := (rg1 r c full) 2 c) ((rg1 r c full) 2 c) xFU 0 (xup (xup S 3 o 9 (S 3 o 1)) 3 o 10 (nI ((rg1 r c full) 2 c))) (rg2 (rg1 r c full) c ((rg1 r c full) 2 c)) (by omega) (by show _ < 1000000; omega) (by rw [xup_s, if_neg (by decide), xup_s, if_neg (by decide), rg2_o _ _ _ (by decide) (by decide) (by decide)]; exact c1) (by
      rw [xup_o (by decide), xup_o (by decide), rg2_o _ _ _ (by decide) (by decide) (by decide), rg2_o _ _ _ (by decide) (by decide) (by decide)]
      exact c7) (by rw [rg2_o _ _ _ (by decide) (by decide) (by decide), hr3]; omega) (by rw [rg2_o _ _ _ (by decide) (by decide) (by decide), hr3]; omega)
    have hx : ∀ j, ¬ j = 1 → S1 3 o j = if j = 10 then nI ((rg1 r c full) 2 c) else if j = 9 then S 3 o 1 else S 3 o j := fun j hj => by rw [g3 j hj, xup_s, xup_s]
    have ht : ∀ t, ¬ t = 3 → ¬ t = 19 → S1 t = S t := fun t a b => by rw [g4 t a b, xup_o a, xup_o a]
    refine ⟨S1, ?_, ⟨g1, ?_, ?_, ?_, ?_, ?_, g2⟩, ⟨?_, ?_, ?_⟩, ((Fr.rf.up (by simp [PR])).up (by simp [PR])).tr g5⟩
    · unfold f3_readPhrase
      rw [Nat.add_zero] at e1
      rw [e1]
      rfl
    · rw [hx 2 (by decide), if_neg (by decide), if_neg (by decide), rcp_o _ (by decide) (by decide), rg2_o _ _ _ (by decide) (by decide) (by decide)]; exact c2
    · rw [hx 3 (by decide), if_neg (by decide), if_neg (by decide), rcp_o _ (by decide) (by decide), rg2_o _ _ _ (by decide) (by decide) (by decide)]; exact c3
    · rw [ht 20 (by decide) (by decide), ht 21 (by decide) (by decide), rcp_o _ (by decide) (by decide), rcp_o _ (by decide) (by decide), rcp_o _ (by decide) (by decide), rg2_o _ _ _ (by decide) (by decide) (by decide), rg2_o _ _ _ (by decide) (by decide) (by decide), rg2_o _ _ _ (by decide) (by decide) (by decide)]
      exact c4
    · intro _
      rw [hx 9 (by decide), if_neg (by decide), if_pos rfl, rcp_o _ (by decide) (by decide), rg2_6]
      exact c1
    · rw [hx 10 (by decide), if_pos rfl, rcp_o _ (by decide) (by decide), rg2_7]
    · rw [hx 4 (by decide), if_neg (by decide), if_neg (by decide)]; exact hQ.1
    · rw [hx 5 (by decide), if_neg (by decide), if_neg (by decide)]; exact hQ.2.1
    · rw [hx 8 (by decide), if_neg (by decide), if_neg (by decide)]; exact hQ.2.2
theorem f3_readEntry_ok {S : xSt} {o c full i : Nat} {r : wS} (hC : CR S o r) (hQ : CQ S o full) (hI : RI r full i) (hf : full ≤ 512) (hi : i < 281) (h8 : ¬ c = 8) (h9 : ¬ c = 9) (hs : rst r c full = true) :
    ∃ S', f3_readEntry S o (nI c) = some (S', none) ∧ CR S' o (ren r c full) ∧ CQ S' o full ∧ Fr (PR o) S S' := by
  obtain ⟨-, -, hbig, -⟩ := ren_RI hI h8 h9 hs
  have hr3 : (rg1 r c full) 3 = r 3 := rg1_o _ _ _ (by decide) (by decide) (by decide) (by decide) (by decide)
  have hr4 : (rg1 r c full) 4 = r 4 := rg1_o _ _ _ (by decide) (by decide) (by decide) (by decide) (by decide)
  have hr6 : (rg1 r c full) 6 = r 6 := rg1_o _ _ _ (by decide) (by decide) (by decide) (by decide) (by decide)
  have hr7 : (rg1 r c full) 7 = r 7 := rg1_o _ _ _ (by decide) (by decide) (by decide) (by decide) (by decide)
  obtain ⟨⟨i1, i1'⟩, i2, i3, i4, i5, i6, i7, i8⟩ := hI
  have hc30 : c < 2 ^ 30 := by
    unfold rst at hs
    simp only [Bool.or_eq_true, Bool.and_eq_true, decide_eq_true_eq] at hs
    omega
  have hgg : r 3 0 + (i + 1) ≤ 39621 := by
    have h1 : i * (i + 1) ≤ 280 * 281 := Nat.mul_le_mul (by omega) (by omega)
    omega
  have h512 : (rg1 r c full) 0 0 ≤ 512 := by
    rw [rg1_0]
    by_cases hg : 0 < r 7 0 ∧ r 0 0 < full
    · rw [if_pos hg]; omega
    · rw [if_neg hg]; omega
  obtain ⟨c1, c2, c3, c4, c5, c6, c7⟩ := hC
  have fin : ∀ a : Nat, a = (if c = r 0 0 then 1 else 0) → ∃ S', f3_readEntry_J18 o S (nI c) (nI a) (S 3 o 3) = some (S', none) ∧ CR S' o (ren r c full) ∧ CQ S' o full ∧ Fr (PR o) S S' := by
    intro a ha
    unfold f3_readEntry_J18
    rw [xlet_eq, c3, nI_add]
    have hcan := f3_canGrow_ok (S := xup S 3 o 3 (nI (r 5 0 + a))) (o := o) (full := full) (r := r) (by rw [xup_s, if_neg (by decide)]; exact c6) (by rw [xup_s, if_neg (by decide)]; exact hQ.2.2) (by rw [xup_s, if_neg (by decide)]; exact c2) hf i1' (by omega)
    rw [hcan]
    simp only [xbI]
    by_cases hg : 0 < r 7 0 ∧ r 0 0 < full
    · have h2e : (xup S 3 o 3 (nI (r 5 0 + a))) 3 o 2 = nI (r 0 0) := by rw [xup_s, if_neg (by decide)]; exact c2
      have h9e : (xup S 3 o 3 (nI (r 5 0 + a))) 3 o 9 = nI (r 6 0) := by rw [xup_s, if_neg (by decide)]; exact c5 hg.1
      have h10e : (xup S 3 o 3 (nI (r 5 0 + a))) 3 o 10 = nI (r 7 0) := by rw [xup_s, if_neg (by decide)]; exact c6
      rw [if_pos hg, if_neg (by decide), h2e, xat_ok (by omega) (by decide), h9e, xlet_eq, xup_o (by decide), h2e, xat_ok (by omega) (by decide), h10e, xlet_eq, xup_o (by decide), xup_o (by decide), h2e, xlet_eq, nI_1, nI_1]
      have hC' : CR (xup (xup (xup (xup S 3 o 3 (nI (r 5 0 + a))) 20 o (r 0 0) (nI (r 6 0))) 21 o (r 0 0) (nI (r 7 0 + 1))) 3 o 2 (nI (r 0 0 + 1))) o (rg1 r c full) := by
        refine ⟨?_, ?_, ?_, ?_, ?_, ?_, ?_⟩
        · simp (disch := decide) only [xup_o, xup_s, if_neg, hr3]; exact c1
        · rw [xup_s, if_pos rfl, rg1_0, if_pos hg]
        · simp (disch := decide) only [xup_o, xup_s, if_neg, if_true, rg1_5, ha]
        · intro k hk1 hk2
          rw [rg1_0, if_pos hg] at hk2
          simp (disch := decide) only [xup_o, xup_s]
          rw [rg1_1, rg1_2]
          by_cases hk : k = r 0 0
          · rw [if_pos hk, if_pos hk, if_pos ⟨hg, hk⟩, if_pos ⟨hg, hk⟩]
            exact ⟨rfl, rfl⟩
          · have hn : ¬ ((0 < r 7 0 ∧ r 0 0 < full) ∧ k = r 0 0) := fun q => hk q.2
            rw [if_neg hk, if_neg hk, if_neg hn, if_neg hn]
            exact c4 k hk1 (by omega)
        · intro q
          simp (disch := decide) only [xup_o, xup_s, if_neg, hr6]
          exact c5 hg.1
        · simp (disch := decide) only [xup_o, xup_s, if_neg, hr7]; exact c6
        · simp (disch := decide) only [xup_o, hr3, hr4]; exact c7
      have hQ' : CQ (xup (xup (xup (xup S 3 o 3 (nI (r 5 0 + a))) 20 o (r 0 0) (nI (r 6 0))) 21 o (r 0 0) (nI (r 7 0 + 1))) 3 o 2 (nI (r 0 0 + 1))) o full := by
        refine ⟨?_, ?_, ?_⟩
        · simp (disch := decide) only [xup_o, xup_s, if_neg]; exact hQ.1
        · simp (disch := decide) only [xup_o, xup_s, if_neg]; exact hQ.2.1
        · simp (disch := decide) only [xup_o, xup_s, if_neg]; exact hQ.2.2
      obtain ⟨S', e', g1, g2, g3⟩ := f3_J67_ok (i := i) (r := r) (c := c) (full := full) hC' hQ' h8 h9 hr3 (fun q => ⟨(hbig q).1, (hbig q).2.1, (hbig q).2.2.1, (hbig q).2.2.2.1, (hbig q).2.2.2.2.1⟩) hgg h512
      exact ⟨S', e', g1, g2, ((((Fr.rf.up (by simp [PR])).up (by simp [PR])).up (by simp [PR])).up (by simp [PR])).tr g3⟩
    · rw [if_neg hg, if_pos rfl]
      have hn : ∀ k, ¬ ((0 < r 7 0 ∧ r 0 0 < full) ∧ k = r 0 0) := fun k q => hg q.1
      have hC' : CR (xup S 3 o 3 (nI (r 5 0 + a))) o (rg1 r c full) := by
        refine ⟨?_, ?_, ?_, ?_, ?_, ?_, ?_⟩
        · simp (disch := decide) only [xup_s, if_neg, hr3]; exact c1
        · rw [xup_s, if_neg (by decide), rg1_0, if_neg hg]; exact c2
        · rw [xup_s, if_pos rfl, rg1_5, ha]
        · intro k hk1 hk2
          rw [rg1_0, if_neg hg] at hk2
          rw [xup_o (by decide), xup_o (by decide), rg1_1, rg1_2, if_neg (hn k), if_neg (hn k)]
          exact c4 k hk1 hk2
        · intro q
          rw [hr7] at q
          rw [xup_s, if_neg (by decide), hr6]
          exact c5 q
        · rw [xup_s, if_neg (by decide), hr7]; exact c6
        · rw [xup_o (by decide), hr3, hr4]; exact c7
      have hQ' : CQ (xup S 3 o 3 (nI (r 5 0 + a))) o full := by
        refine ⟨?_, ?_, ?_⟩
        · rw [xup_s, if_neg (by decide)]; exact hQ.1
        · rw [xup_s, if_neg (by decide)]; exact hQ.2.1
        · rw [xup_s, if_neg (by decide)]; exact hQ.2.2
      obtain ⟨S', e', g1, g2, g3⟩ := f3_J67_ok (i := i) (r := r) (c := c) (full := full) hC' hQ' h8 h9 hr3 (fun q => ⟨(hbig q).1, (hbig q).2.1, (hbig q).2.2.1, (hbig q).2.2.2.1, (hbig q).2.2.2.2.1⟩) hgg h512
      exact ⟨S', e', g1, g2, (Fr.rf.up (by simp [PR])).tr g3⟩
  unfold f3_readEntry
  by_cases he : c = r 0 0
  · have e1 : nI c = S 3 o 2 := by rw [c2, he]
    rw [if_pos e1]
    exact fin 1 (by rw [if_pos he])
  · have e1 : ¬ nI c = S 3 o 2 := by rw [c2]; exact fun q => he (nI_inj (by omega) (by omega) q)
    rw [if_neg e1]
    exact fin 0 (by rw [if_neg he])
