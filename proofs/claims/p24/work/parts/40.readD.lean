/-! isRead: all of it -/
theorem ir_loop {a : Nat → Nat} (hA : AV a) (hK : (wa a) 4 0 ≤ 64) {S0 : xSt} (hQ0 : QI S0 a) : ∀ (d F k : Nat) (S : xSt) (r : wS) (pl ln : Nat → Nat) (b g : Nat), k + d = (wa a) 4 0 → d + 1 < F → ra a = rda (ca a) ((wa a) 4 0) (2 ^ a 0) (d + 1) r k → RI r (2 ^ a 0) k → LR r pl ln (2 ^ a 0) b g → g ≤ k → (∀ t, ¬ t = 33 → S t = S0 t) → (∀ j, j < g → S 33 0 j = nI (pl j) ∧ S 33 1 j = nI (ln j)) →
    ∃ S', fW_isRead_L55 F S (nI ((wa a) 4 0)) (nI (2 ^ a 0)) (nI (r 0 0)) (nI b) (nI g) (nI (r 3 0)) (nI (r 5 0)) (-6) 0 0 (nI k) = some (S', some (.int 1)) ∧ ∀ t, ¬ t = 33 → S' t = S0 t
  | d, 0, _, _, _, _, _, _, _, _, h, _, _, _, _, _, _ => absurd h (Nat.not_lt_zero _)
  | 0, F + 1, k, S, r, pl, ln, b, g, e, _, hr, hI, hL, hg, hS, hR => by
    have hQ := QI_fr hQ0 hS
    refine ⟨S, ?_, hS⟩
    rw [rda, if_pos (by omega)] at hr
    have h0 : (ra a) 0 0 = r 0 0 := by rw [hr, rfa_o _ _ _ (by decide) (by decide)]
    have h3 : (ra a) 3 0 = r 3 0 := by rw [hr, rfa_o _ _ _ (by decide) (by decide)]
    have h5 : (ra a) 5 0 = r 5 0 := by rw [hr, rfa_o _ _ _ (by decide) (by decide)]
    have h9 : (ra a) 9 0 = 2 := by rw [hr, rfa_9]
    have h10 : (ra a) 10 0 = (wa a) 4 0 := by rw [hr, rfa_10]
    show bW_isRead_L55 (fW_isRead_L55 F) S (nI ((wa a) 4 0)) (nI (2 ^ a 0)) (nI (r 0 0)) (nI b) (nI g) (nI (r 3 0)) (nI (r 5 0)) (-6) 0 0 (nI k) = _
    unfold bW_isRead_L55 fW_isRead_J363
    rw [if_pos (nI_le (by omega) (by omega)), if_pos rfl, if_pos rfl, ← h0, ← h3, ← h5]
    exact ir_fin hA hQ (by rw [h9, h10]; rfl) (by rw [h9]; rfl)
  | d + 1, F + 1, k, S, r, pl, ln, b, g, e, hF, hr, hI, hL, hg, hS, hR => by
    have hQ := QI_fr hQ0 hS
    have hk : k < (wa a) 4 0 := by omega
    have hfl := AV_pow hA
    have hc := (AV_ca hA hk).2
    have hkeep := rda_keep (c := ca a) (n := (wa a) 4 0) (show 10 ≤ 2 ^ a 0 by omega)
    obtain ⟨c, ec⟩ : ∃ c, c = ca a k := ⟨_, rfl⟩
    have hle : ¬ (wa a) 4 0 ≤ k := by omega
    rw [rda, if_neg hle, ← ec] at hr
    rw [← ec] at hc
    -- to the code
    have hhead : fW_isRead_L55 (F + 1) S (nI ((wa a) 4 0)) (nI (2 ^ a 0)) (nI (r 0 0)) (nI b) (nI g) (nI (r 3 0)) (nI (r 5 0)) (-6) 0 0 (nI k) = fW_isRead_J112 (fW_isRead_L55 F) S (nI ((wa a) 4 0)) (nI (2 ^ a 0)) (nI (r 0 0)) (nI b) (nI g) (nI (r 3 0)) (nI (r 5 0)) (-6) 0 0 (nI k) (nI c) (if b < g then 1 else 0) (if c = r 0 0 ∧ b < g ∧ r 0 0 < 2 ^ a 0 then 1 else 0) := by
      show bW_isRead_L55 (fW_isRead_L55 F) S (nI ((wa a) 4 0)) (nI (2 ^ a 0)) (nI (r 0 0)) (nI b) (nI g) (nI (r 3 0)) (nI (r 5 0)) (-6) 0 0 (nI k) = _
      unfold bW_isRead_L55
      rw [if_neg (nI_ge hk (by omega)), if_pos rfl, (q_ofCode hA hQ hk).2.1, xbI_eq, ← ec]
      exact ir_next hc (by have := hI.1.2; omega) hfl.2 (by have := hL.1; omega) (by omega) _ _ _ _ _ _ _
    rw [hhead]
    unfold fW_isRead_J112
    rw [if_pos rfl]
    by_cases c9 : c = 9
    · -- END
      rw [if_pos (show nI c = 9 by rw [c9]; rfl)]
      rw [if_pos c9] at hr
      unfold fW_isRead_J357
      rw [nI_1]
      by_cases ck : k + 1 < (wa a) 4 0
      · rw [if_pos ck] at hr
        have h0 : (ra a) 0 0 = r 0 0 := by rw [hr, rfa_o _ _ _ (by decide) (by decide)]
        have h3 : (ra a) 3 0 = r 3 0 := by rw [hr, rfa_o _ _ _ (by decide) (by decide)]
        have h5 : (ra a) 5 0 = r 5 0 := by rw [hr, rfa_o _ _ _ (by decide) (by decide)]
        have h9 : (ra a) 9 0 = 3 := by rw [hr, rfa_9]
        have h10 : (ra a) 10 0 = k + 1 := by rw [hr, rfa_10]
        refine ⟨S, ?_, hS⟩
        cases F with
        | zero => omega
        | succ F =>
          show bW_isRead_L55 (fW_isRead_L55 F) S (nI ((wa a) 4 0)) (nI (2 ^ a 0)) (nI (r 0 0)) (nI b) (nI g) (nI (r 3 0)) (nI (r 5 0)) (-6) 0 1 (nI (k + 1)) = _
          unfold bW_isRead_L55
          rw [if_neg (nI_ge ck (by omega)), if_pos rfl, (q_ofCode hA hQ ck).2.1, xbI_eq]
          rw [ir_next (AV_ca hA ck).2 (by have := hI.1.2; omega) hfl.2 (by have := hL.1; omega) (by omega)]
          unfold fW_isRead_J112
          rw [if_neg (by decide)]
          unfold fW_isRead_J357
          rw [nI_1, ← h0, ← h3, ← h5]
          exact ir_stop hA hQ (by omega) (by omega) (by rw [h9, h10]; rfl) (by rw [h9]; rfl) (Or.inl (by decide)) _ _ _
      · rw [if_neg ck] at hr
        refine ⟨S, ?_, hS⟩
        have h9 : r 9 0 = 0 := hI.2.2.2.2.2.2.1
        rw [show r 0 0 = (ra a) 0 0 by rw [hr], show r 3 0 = (ra a) 3 0 by rw [hr], show r 5 0 = (ra a) 5 0 by rw [hr]]
        exact ir_stop hA hQ (by omega) (by omega) (by rw [hr, h9]; rfl) (by rw [hr, h9]; rfl) (Or.inr ⟨by decide, by omega⟩) _ _ _
    · have n9 : ¬ nI c = 9 := fun z => c9 (nI_inj (b := 9) (by omega) (by decide) z)
      rw [if_neg n9]
      rw [if_neg c9] at hr
      by_cases c8 : c = 8
      · -- CLEAR
        rw [if_pos (show nI c = 8 by rw [c8]; rfl)]
        rw [if_pos c8] at hr
        unfold fW_isRead_J357
        rw [nI_1]
        have e0 : (rdr r) 0 0 = 10 := by simp [rdr, wu_o, wu_s]
        have e3 : (rdr r) 3 0 = r 3 0 := by simp [rdr, wu_o]
        have e5 : (rdr r) 5 0 = r 5 0 := by simp [rdr, wu_o]
        have ih := ir_loop hA hK hQ0 d F (k + 1) S (rdr r) pl ln g g (by omega) (by omega) hr (rdr_RI hI (by omega)) (LR_clear hL) (by omega) hS hR
        rw [e0, e3, e5] at ih
        exact ih
      · have n8 : ¬ nI c = 8 := fun z => c8 (nI_inj (b := 8) (by omega) (by decide) z)
        rw [if_neg n8]
        rw [if_neg c8] at hr
        by_cases hs : rst r c (2 ^ a 0) = true
        · rw [if_pos hs] at hr
          have hRI := (ren_RI hI c8 c9 hs).1
          have hbody := ir_body (S := S) hA hQ (k55 := fW_isRead_L55 F) (pl := pl) (ln := ln) (b := b) (g := g) (k := k) hfl.2 hL hI (by omega) hc c8 c9 hs (by
            rw [hr]
            exact hkeep (d + 1) _ (k + 1) hRI) hR (nI ((wa a) 4 0)) (-6) 0 0
          have hJ : (if nI c < (8 : Int32) then
              fW_isRead_J179 (fW_isRead_L55 F) S (nI ((wa a) 4 0)) (nI (2 ^ a 0)) (nI (r 0 0)) (nI b) (nI g) (nI (r 3 0)) (nI (r 5 0)) (-6) 0 0 (nI k) (nI c) (if b < g then 1 else 0) (if c = r 0 0 ∧ b < g ∧ r 0 0 < 2 ^ a 0 then 1 else 0)
            else
              if nI c < nI (r 0 0) then
                fW_isRead_J179 (fW_isRead_L55 F) S (nI ((wa a) 4 0)) (nI (2 ^ a 0)) (nI (r 0 0)) (nI b) (nI g) (nI (r 3 0)) (nI (r 5 0)) (-6) 0 0 (nI k) (nI c) (if b < g then 1 else 0) (if c = r 0 0 ∧ b < g ∧ r 0 0 < 2 ^ a 0 then 1 else 0)
              else
                if (if c = r 0 0 ∧ b < g ∧ r 0 0 < 2 ^ a 0 then (1 : Int32) else 0) = 0 then
                  fW_isRead_J357 (fW_isRead_L55 F) S (nI ((wa a) 4 0)) (nI (2 ^ a 0)) (nI (r 0 0)) (nI b) (nI g) (nI (r 3 0)) (nI (r 5 0)) (nI k) 1 0 (nI k)
                else
                  fW_isRead_J179 (fW_isRead_L55 F) S (nI ((wa a) 4 0)) (nI (2 ^ a 0)) (nI (r 0 0)) (nI b) (nI g) (nI (r 3 0)) (nI (r 5 0)) (-6) 0 0 (nI k) (nI c) (if b < g then 1 else 0) (if c = r 0 0 ∧ b < g ∧ r 0 0 < 2 ^ a 0 then 1 else 0)) = fW_isRead_J179 (fW_isRead_L55 F) S (nI ((wa a) 4 0)) (nI (2 ^ a 0)) (nI (r 0 0)) (nI b) (nI g) (nI (r 3 0)) (nI (r 5 0)) (-6) 0 0 (nI k) (nI c) (if b < g then 1 else 0) (if c = r 0 0 ∧ b < g ∧ r 0 0 < 2 ^ a 0 then 1 else 0) := by
            by_cases d8 : nI c < (8 : Int32)
            · rw [if_pos d8]
            · rw [if_neg d8]
              rcases rst_or hs with q | ⟨q1, q2, q3⟩
              · rw [if_pos (nI_lt q (by have := hI.1.2; omega))]
              · have hx : (if c = r 0 0 ∧ b < g ∧ r 0 0 < 2 ^ a 0 then (1 : Int32) else 0) = 1 := if_pos ⟨q1, hL.2.1.mp q2, q3⟩
                rw [if_neg (nI_nlt (by omega) (by omega)), hx, if_neg (by decide)]
          rw [hJ, hbody]
          obtain ⟨S2, e2⟩ : ∃ S2, S2 = xup (xup S 33 0 g (nI (r 3 0))) 33 1 g (nI (lnc r c (2 ^ a 0))) := ⟨_, rfl⟩
          rw [← e2]
          refine ir_loop hA hK hQ0 d F (k + 1) S2 (ren r c (2 ^ a 0)) (fun j => if j = g then r 3 0 else pl j) (fun j => if j = g then lnc r c (2 ^ a 0) else ln j) b (g + 1) (by omega) (by omega) hr hRI (LR_step hL hI c8 c9 hs) (by omega) (fun t ht => by rw [e2, xup_o ht, xup_o ht, hS t ht]) (fun j hj => ?_)
          have a0 : S2 33 0 j = if j = g then nI (r 3 0) else S 33 0 j := by rw [e2, xup_i (by decide), xup_s]
          have a1 : S2 33 1 j = if j = g then nI (lnc r c (2 ^ a 0)) else S 33 1 j := by rw [e2, xup_s, xup_i (by decide)]
          show S2 33 0 j = nI (if j = g then r 3 0 else pl j) ∧ S2 33 1 j = nI (if j = g then lnc r c (2 ^ a 0) else ln j)
          rw [a0, a1]
          by_cases cj : j = g
          · rw [if_pos cj, if_pos cj, if_pos cj, if_pos cj]; exact ⟨rfl, rfl⟩
          · rw [if_neg cj, if_neg cj, if_neg cj, if_neg cj]; exact hR j (by omega)
        · -- a fault
          rw [if_neg hs] at hr
          have hno : ¬ (c < r 0 0 ∨ (c = r 0 0 ∧ 0 < r 7 0 ∧ r 0 0 < 2 ^ a 0)) := fun q => hs (by
            unfold rst
            simp only [Bool.or_eq_true, Bool.and_eq_true, decide_eq_true_eq]
            exact q)
          have h10r := hI.1.1
          have d8 : ¬ nI c < (8 : Int32) := nI_nlt (a := c) (b := 8) (by omega) (by omega)
          have hx : (if c = r 0 0 ∧ b < g ∧ r 0 0 < 2 ^ a 0 then (1 : Int32) else 0) = 0 := if_neg (fun z => hno (Or.inr ⟨z.1, hL.2.1.mpr z.2.1, z.2.2⟩))
          have h0 : (ra a) 0 0 = r 0 0 := by rw [hr, rfa_o _ _ _ (by decide) (by decide)]
          have h3 : (ra a) 3 0 = r 3 0 := by rw [hr, rfa_o _ _ _ (by decide) (by decide)]
          have h5 : (ra a) 5 0 = r 5 0 := by rw [hr, rfa_o _ _ _ (by decide) (by decide)]
          have h9 : (ra a) 9 0 = 1 := by rw [hr, rfa_9]
          have h10 : (ra a) 10 0 = k := by rw [hr, rfa_10]
          refine ⟨S, ?_, hS⟩
          rw [if_neg d8, if_neg (nI_nlt (by omega) (by omega)), hx, if_pos rfl]
          unfold fW_isRead_J357
          rw [nI_1, ← h0, ← h3, ← h5]
          exact ir_stop hA hQ (by omega) (by omega) (by rw [h9, h10]; rfl) (by rw [h9]; rfl) (Or.inl (by decide)) _ _ _
theorem isRead_ok {S : xSt} {a : Nat → Nat} (hA : AV a) (hQ : QI S a) (hK : (wa a) 4 0 ≤ 64) : hW_isRead S = some (S, some (.int 1)) := by
  obtain ⟨c0, c1, c2, c3, c4, c5, c6, c9, c10, c11⟩ := q_count hA hQ
  have hfl := AV_pow hA
  obtain ⟨S1, e1⟩ : ∃ S1, S1 = xua (xua S 33 0 (fun _ => 0)) 33 1 (fun _ => 0) := ⟨_, rfl⟩
  have h1 : ∀ t, ¬ t = 33 → S1 t = S t := fun t h => by rw [e1, xua_o h, xua_o h]
  obtain ⟨S', f1, f2⟩ := ir_loop hA hK hQ ((wa a) 4 0) xFU 0 S1 r0 (fun _ => 0) (fun _ => 0) 0 0 (by omega) (by show (wa a) 4 0 + 1 < 1000000; omega) rfl (r0_RI (by omega)) (LR_start _) (Nat.le_refl _) h1 (fun j h => absurd h (Nat.not_lt_zero j))
  have hf : fW_isRead S = some (S', some (.int 1)) := by
    unfold fW_isRead
    rw [c1, xbI_eq, c9, xbI_eq, xlet_eq, xlet_eq, ← e1, shl_pow hA.1.2]
    exact f1
  unfold hW_isRead
  rw [hf]
  show some (xrst S S', some (Value.int 1)) = _
  rw [xrst_eq f2]
