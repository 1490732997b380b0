/-! texts: the class spells -/
theorem pred_n {D : Nat} (h : 0 < D) : nI D + -1 = nI (D - 1) := by
  obtain ⟨D', rfl⟩ : ∃ D', D = D' + 1 := ⟨D - 1, by omega⟩
  rw [show D' + 1 - 1 = D' by omega, ← nI_pred D', Int32.sub_eq_add_neg]
theorem mx6 {N : Nat} (h : N ≤ 60) : (if nI N < 1 then (1 : Int32) else nI N) = nI (max N 1) := by
  by_cases c : N = 0
  · subst c; rfl
  · have q : ¬ nI N < 1 := nI_nlt (a := N) (b := 1) (by omega) (by omega)
    rw [if_neg q, show max N 1 = N by omega]
theorem psp_ZI {ch : Nat → Nat} {p : Nat} (hch : CH ch p) : ∀ (d k D N P : Nat) (z : wS), k + d = p → D ≤ 3 → N ≤ 60 → pf ch p d k D N P = -6 → ZI z D → ZI (psp ch d k D N z) 0
  | 0, k, D, N, P, z, _, _, _, _, hz => ⟨hz.1, fun i hi => absurd hi (Nat.not_lt_zero i), hz.2.2⟩
  | d + 1, k, D, N, P, z, e, hD, hN, hf, hz => by
    have hp80 := hch.1
    obtain ⟨l1, l2⟩ := hch.2 k (by omega)
    rw [pf] at hf
    rw [psp]
    by_cases c1 : 48 ≤ ch k ∧ ch k ≤ 57
    · rw [if_pos c1] at hf ⊢
      by_cases c2 : 10 * N + ch k - 48 = 0 ∨ 60 < 10 * N + ch k - 48
      · rw [if_pos c2] at hf; exact absurd hf (nI_n6 (by omega))
      · rw [if_neg c2] at hf
        exact psp_ZI hch d (k + 1) D _ P z (by omega) hD (by omega) hf hz
    · rw [if_neg c1] at hf ⊢
      by_cases c2 : 97 ≤ ch k ∧ ch k ≤ 104
      · rw [if_pos c2] at hf ⊢
        by_cases c3 : N = 1
        · rw [if_pos c3] at hf; exact absurd hf (nI_n6 (by omega))
        · rw [if_neg c3] at hf
          exact psp_ZI hch d (k + 1) D 0 1 _ (by omega) hD (by omega) hf (zsg_ZI hz (by omega) (by omega))
      · rw [if_neg c2] at hf ⊢
        by_cases c3 : ch k = 40
        · rw [if_pos c3] at hf ⊢
          by_cases c4 : N = 1 ∨ D = 3
          · rw [if_pos c4] at hf; exact absurd hf (nI_n6 (by omega))
          · rw [if_neg c4] at hf
            exact psp_ZI hch d (k + 1) (D + 1) 0 0 _ (by omega) (by omega) (by omega) hf (zop_ZI hz (by omega) (by omega))
        · rw [if_neg c3] at hf ⊢
          by_cases c4 : ch k = 41
          · rw [if_pos c4] at hf
            by_cases c5 : ¬ N = 0 ∨ D = 0 ∨ P = 0
            · rw [if_pos c5] at hf; exact absurd hf (nI_n6 (by omega))
            · rw [if_neg c5] at hf
              exact psp_ZI hch d (k + 1) (D - 1) 0 P _ (by omega) (by omega) (by omega) hf (zcl_ZI (by rw [show D - 1 + 1 = D by omega]; exact hz))
          · rw [if_neg c4] at hf; exact absurd hf (nI_n6 (by omega))
/-- what the class holds -/
def CZ (S : xSt) (z : wS) (D : Nat) : Prop := (z 0 0 ≤ 240 → ∀ j, j < z 0 0 → S 16 0 j = nI (z 1 j)) ∧ ∀ i, i < D → S 17 0 i = nI (z 2 i) ∧ S 18 0 i = nI (z 3 i)
theorem sgn6 {S : xSt} {z : wS} {D s t : Nat} (hz : ZI z D) (hC : CZ S z D) (hM : z 0 0 ≤ 240) (ht : t ≤ 60) : ∃ S', f2_spellSign S (nI (z 0 0)) (nI s) (nI t) = some (S', some (.int (nI (zsg z s t 0 0)))) ∧ CZ S' (zsg z s t) D ∧ ∀ t', ¬ t' = 16 → S' t' = S t' := by
  unfold f2_spellSign
  rw [nI_add, zsg_0]
  by_cases c : 240 < z 0 0 + t
  · have q : ¬ nI (z 0 0 + t) ≤ 240 := nI_ge (a := 240) c (by omega)
    refine ⟨S, by rw [if_neg q, if_pos c]; rfl, ⟨fun h => ?_, fun i hi => ?_⟩, fun _ _ => rfl⟩
    · rw [zsg_0, if_pos c] at h; omega
    · rw [zsg_o z s t (show 2 ≤ 2 by decide), zsg_o z s t (show 2 ≤ 3 by decide)]; exact hC.2 i hi
  · have q : nI (z 0 0 + t) ≤ 240 := nI_le (b := 240) (by omega) (by decide)
    have hfill : ffill4 S 16 0 240 (nI (z 0 0)) (nI (z 0 0 + t)) (nI s) = some (xua S 16 0 (fun j => if z 0 0 ≤ j ∧ j < z 0 0 + t then nI s else S 16 0 j), none) := by
      unfold ffill4 xne
      rw [if_pos ⟨nI_le (by omega) (by omega), nI_pos' (by omega), nI_le (by omega) (by decide)⟩, nI_clamp (by omega), nI_clamp (by omega)]
    refine ⟨xua S 16 0 (fun j => if z 0 0 ≤ j ∧ j < z 0 0 + t then nI s else S 16 0 j), by rw [if_pos q, hfill, xbV_eq, if_neg c], ⟨fun h j hj => ?_, fun i hi => ?_⟩, fun t' h => xua_o h⟩
    · rw [zsg_0, if_neg c] at hj
      rw [xua_s, zsg_1 (by omega)]
      by_cases cj : z 0 0 ≤ j ∧ j < z 0 0 + t
      · rw [if_pos cj, if_pos cj]
      · rw [if_neg cj, if_neg cj]; exact hC.1 hM j (by omega)
    · rw [zsg_o z s t (show 2 ≤ 2 by decide), zsg_o z s t (show 2 ≤ 3 by decide), xua_o (by decide), xua_o (by decide)]; exact hC.2 i hi
theorem rep_loop6 {b M E : Nat} (hE : E ≤ 240) (hbM : b ≤ M) : ∀ (e F c : Nat) (S : xSt) (f : Nat → Nat), c + e = E → e < F → M ≤ c → (0 < e → b < M) → (∀ j, j < c → S 16 0 j = nI (f j)) →
    ∃ S', f2_repeat_L24 F S (nI b) (nI M) (nI E) (nI c) = some (S', some (.int (nI E))) ∧ (∀ j, j < E → S' 16 0 j = nI (rpt (M - b) e c f j)) ∧ ∀ t', ¬ t' = 16 → S' t' = S t'
  | e, 0, _, _, _, _, h, _, _, _ => absurd h (Nat.not_lt_zero _)
  | 0, F + 1, c, S, f, e, _, _, _, hf => by
    refine ⟨S, ?_, fun j hj => hf j (by omega), fun _ _ => rfl⟩
    show b2_repeat_L24 (f2_repeat_L24 F) S (nI b) (nI M) (nI E) (nI c) = _
    unfold b2_repeat_L24
    rw [if_pos (nI_le (by omega) (by omega))]
  | e + 1, F + 1, c, S, f, he, hF, hc, hb, hf => by
    have hb' := hb (by omega)
    obtain ⟨S', e1, g1, g2⟩ := rep_loop6 hE hbM e F (c + 1) (xup S 16 0 c (nI (f (c - (M - b))))) (fun j => if j = c then f (c - (M - b)) else f j) (by omega) (by omega) (by omega) (fun _ => hb') (fun j hj => by
      rw [xup_s]
      show _ = nI (if j = c then f (c - (M - b)) else f j)
      by_cases cj : j = c
      · rw [if_pos cj, if_pos cj]
      · rw [if_neg cj, if_neg cj]; exact hf j (by omega))
    refine ⟨S', ?_, g1, fun t' h => (g2 t' h).trans (xup_o h)⟩
    show b2_repeat_L24 (f2_repeat_L24 F) S (nI b) (nI M) (nI E) (nI c) = _
    have h1 : nI c - (nI M - nI b) = nI (c - (M - b)) := by rw [pk_sub hbM, pk_sub (by omega)]
    unfold b2_repeat_L24
    rw [if_neg (nI_ge (by omega) (by omega)), h1, xat_ok (by omega) (by decide), xat_ok (by omega) (by decide), hf (c - (M - b)) (by omega), xlet_eq, nI_1]
    exact e1
theorem cls6 {S : xSt} {z : wS} {D : Nat} (hz : ZI z (D + 1)) (hC : CZ S z (D + 1)) (hM : z 0 0 ≤ 240) : ∃ S', f2_repeat S (nI (z 2 D)) (nI (z 0 0)) (nI (z 3 D)) = some (S', some (.int (nI (zcl z D 0 0)))) ∧ CZ S' (zcl z D) D ∧ ∀ t', ¬ t' = 16 → S' t' = S t' := by
  obtain ⟨h1, h2, h3⟩ := hz
  obtain ⟨b1, b2, b3⟩ := h2 D (by omega)
  have hE : z 2 D + (z 0 0 - z 2 D) * z 3 D = z 0 0 + (z 0 0 - z 2 D) * (z 3 D - 1) := by
    obtain ⟨t, ht⟩ : ∃ t, z 3 D = t + 1 := ⟨z 3 D - 1, by omega⟩
    rw [ht, Nat.mul_succ, show t + 1 - 1 = t by omega]
    omega
  have hbig : (z 0 0 - z 2 D) * (z 3 D - 1) ≤ 240 * 60 := Nat.mul_le_mul (by omega) (by omega)
  have hval : nI (z 2 D) + (nI (z 0 0) - nI (z 2 D)) * nI (z 3 D) = nI (z 0 0 + (z 0 0 - z 2 D) * (z 3 D - 1)) := by rw [pk_sub b1, pk_mul, nI_add, hE]
  unfold f2_repeat
  rw [hval, zcl_0]
  by_cases c : 240 < z 0 0 + (z 0 0 - z 2 D) * (z 3 D - 1)
  · have q : ¬ nI (z 0 0 + (z 0 0 - z 2 D) * (z 3 D - 1)) ≤ 240 := nI_ge (a := 240) c (by omega)
    refine ⟨S, by rw [if_neg q, if_pos c]; rfl, ⟨fun h => ?_, fun i hi => ?_⟩, fun _ _ => rfl⟩
    · rw [zcl_0, if_pos c] at h; omega
    · rw [zcl_o z D (show 2 ≤ 2 by decide), zcl_o z D (show 2 ≤ 3 by decide)]; exact hC.2 i (by omega)
  · have q : nI (z 0 0 + (z 0 0 - z 2 D) * (z 3 D - 1)) ≤ 240 := nI_le (b := 240) (by omega) (by decide)
    obtain ⟨S', e1, g1, g2⟩ := rep_loop6 (b := z 2 D) (M := z 0 0) (E := z 0 0 + (z 0 0 - z 2 D) * (z 3 D - 1)) (by omega) b1 ((z 0 0 - z 2 D) * (z 3 D - 1)) xFU (z 0 0) S (z 1) rfl (by show (z 0 0 - z 2 D) * (z 3 D - 1) < 1000000; omega) (Nat.le_refl _) (fun h => by
      by_cases cb : z 2 D < z 0 0
      · exact cb
      · rw [show z 0 0 - z 2 D = 0 by omega, Nat.zero_mul] at h; omega) (hC.1 hM)
    refine ⟨S', by rw [if_pos q, if_neg c]; exact e1, ⟨fun h j hj => ?_, fun i hi => ?_⟩, g2⟩
    · rw [zcl_0, if_neg c] at hj
      rw [zcl_1 (by omega)]
      exact g1 j hj
    · rw [zcl_o z D (show 2 ≤ 2 by decide), zcl_o z D (show 2 ≤ 3 by decide), g2 17 (by decide), g2 18 (by decide)]; exact hC.2 i (by omega)
theorem spell6 {ch : Nat → Nat} {p : Nat} (hch : CH ch p) : ∀ (d F k D N P : Nat) (z : wS) (S : xSt), k + d = p → d < F → D ≤ 3 → N ≤ 60 → pf ch p d k D N P = -6 → S 2 0 4 = nI p → (∀ j, j < p → S 15 0 j = nI (ch j)) → ZI z D → CZ S z D →
    ∃ S', f2_spell_L9 F S (nI D) (nI N) (nI (z 0 0)) (nI k) = some (S', some (.int (nI (psp ch d k D N z 0 0)))) ∧ (psp ch d k D N z 0 0 ≤ 240 → ∀ j, j < psp ch d k D N z 0 0 → S' 16 0 j = nI (psp ch d k D N z 1 j)) ∧ ∀ t, ¬ t = 16 → ¬ t = 17 → ¬ t = 18 → S' t = S t
  | d, 0, _, _, _, _, _, _, _, h, _, _, _, _, _, _, _ => absurd h (Nat.not_lt_zero _)
  | 0, F + 1, k, D, N, P, z, S, e, _, hD, hN, hf, hp, hs, hz, hC => by
    have hp80 := hch.1
    refine ⟨S, ?_, fun h => hC.1 h, fun _ _ _ _ => rfl⟩
    show b2_spell_L9 (f2_spell_L9 F) S (nI D) (nI N) (nI (z 0 0)) (nI k) = _
    unfold b2_spell_L9
    rw [hp, if_pos (nI_le (by omega) (by omega))]
    rfl
  | d + 1, F + 1, k, D, N, P, z, S, e, hF, hD, hN, hf, hp, hs, hz, hC => by
    have hp80 := hch.1
    obtain ⟨l1, l2⟩ := hch.2 k (by omega)
    by_cases hM : 240 < z 0 0
    · have h241 : z 0 0 = 241 := by have := hz.1; omega
      have hr := psp_241 ch (d + 1) k D N z h241
      refine ⟨S, ?_, fun h => by omega, fun _ _ _ _ => rfl⟩
      show b2_spell_L9 (f2_spell_L9 F) S (nI D) (nI N) (nI (z 0 0)) (nI k) = _
      have q : (240 : Int32) < nI (z 0 0) := nI_lt (a := 240) hM (by omega)
      unfold b2_spell_L9
      rw [hp, if_neg (nI_ge (by omega) (by omega)), if_pos q, hr, h241]
    · have q : ¬ ((240 : Int32) < nI (z 0 0)) := nI_nlt (a := 240) (b := z 0 0) (by omega) (by decide)
      rw [pf] at hf
      rw [psp]
      show ∃ S', b2_spell_L9 (f2_spell_L9 F) S (nI D) (nI N) (nI (z 0 0)) (nI k) = _ ∧ _
      unfold b2_spell_L9 f2_spell_J147
      rw [hp, if_neg (nI_ge (by omega) (by omega)), if_neg q, xat_ok (by omega) (by decide), hs k (by omega), digit6 S (by omega), xbI_eq]
      by_cases c1 : 48 ≤ ch k ∧ ch k ≤ 57
      · simp only [if_pos c1] at hf ⊢
        rw [if_neg (by decide), num6 hN (by omega) c1.1, nI_1]
        by_cases c2 : 10 * N + ch k - 48 = 0 ∨ 60 < 10 * N + ch k - 48
        · rw [if_pos c2] at hf; exact absurd hf (nI_n6 (by omega))
        · rw [if_neg c2] at hf
          exact spell6 hch d F (k + 1) D _ P z S (by omega) (by omega) hD (by omega) hf hp hs hz hC
      · simp only [if_neg c1] at hf ⊢
        rw [if_pos trivial]
        have h129 : (97 ≤ ch k ∧ ch k ≤ 104) → ¬ N = 1 → pf ch p d (k + 1) D 0 1 = -6 → ∃ S', f2_spell_J129 (f2_spell_L9 F) S (nI D) (nI N) (nI (z 0 0)) (nI k) (nI (ch k)) = some (S', some (.int (nI (psp ch d (k + 1) D 0 (zsg z (ch k - 97) (max N 1)) 0 0)))) ∧ (psp ch d (k + 1) D 0 (zsg z (ch k - 97) (max N 1)) 0 0 ≤ 240 → ∀ j, j < psp ch d (k + 1) D 0 (zsg z (ch k - 97) (max N 1)) 0 0 → S' 16 0 j = nI (psp ch d (k + 1) D 0 (zsg z (ch k - 97) (max N 1)) 1 j)) ∧ ∀ t, ¬ t = 16 → ¬ t = 17 → ¬ t = 18 → S' t = S t := by
          intro c2 c3 hf
          obtain ⟨S1, e1, g1, g2⟩ := sgn6 (s := ch k - 97) (t := max N 1) hz hC (by omega) (by omega)
          obtain ⟨S2, e2, k1, k2⟩ := spell6 hch d F (k + 1) D 0 1 (zsg z (ch k - 97) (max N 1)) S1 (by omega) (by omega) hD (by omega) hf (by rw [g2 2 (by decide)]; exact hp) (fun j hj => by rw [g2 15 (by decide)]; exact hs j hj) (zsg_ZI hz (by omega) (by omega)) g1
          refine ⟨S2, ?_, k1, fun t a b c => (k2 t a b c).trans (g2 t a)⟩
          unfold f2_spell_J129 f2_spell_J147
          have h97 : nI (ch k) - 97 = nI (ch k - 97) := pk_sub (b := 97) c2.1
          rw [h97, mx6 hN, e1, xbI_eq, nI_1]
          exact e2
        by_cases c2 : 97 ≤ ch k ∧ ch k ≤ 104
        · simp only [if_pos c2] at hf ⊢
          have n40 : ¬ nI (ch k) = 40 := fun q => by have := nI_inj (b := 40) (by omega) (by decide) q; omega
          have n41 : ¬ nI (ch k) = 41 := fun q => by have := nI_inj (b := 41) (by omega) (by decide) q; omega
          rw [if_neg n40]
          unfold f2_spell_J94
          rw [if_neg n41]
          by_cases c3 : N = 1
          · rw [if_pos c3] at hf; exact absurd hf (nI_n6 (by omega))
          · rw [if_neg c3] at hf
            exact h129 c2 c3 hf
        · simp only [if_neg c2] at hf ⊢
          by_cases c3 : ch k = 40
          · simp only [if_pos c3] at hf ⊢
            have q40 : nI (ch k) = 40 := by rw [c3]; rfl
            rw [if_pos q40]
            by_cases c4 : N = 1 ∨ D = 3
            · rw [if_pos c4] at hf; exact absurd hf (nI_n6 (by omega))
            · rw [if_neg c4] at hf
              have q3 : ¬ ((3 : Int32) ≤ nI D) := nI_ge (a := D) (b := 3) (by omega) (by decide)
              rw [if_neg q3, xat_ok (by omega) (by decide), xlet_eq, xat_ok (by omega) (by decide), xlet_eq, mx6 hN, nI_1, nI_1]
              obtain ⟨S2, e2, k1, k2⟩ := spell6 hch d F (k + 1) (D + 1) 0 0 (zop z D (max N 1)) (xup (xup S 17 0 D (nI (z 0 0))) 18 0 D (nI (max N 1))) (by omega) (by omega) (by omega) (by omega) hf (by rw [xup_o (by decide), xup_o (by decide)]; exact hp) (fun j hj => by rw [xup_o (by decide), xup_o (by decide)]; exact hs j hj) (zop_ZI hz (by omega) (by omega)) ⟨fun h j hj => by rw [xup_o (by decide), xup_o (by decide)]; exact hC.1 h j hj, fun i hi => by
                rw [xup_o (by decide), xup_s, xup_s, zop_2, zop_3]
                by_cases ci : i = D
                · rw [if_pos ci, if_pos ci, if_pos ci, if_pos ci]; exact ⟨rfl, rfl⟩
                · rw [if_neg ci, if_neg ci, if_neg ci, if_neg ci, xup_o (by decide)]; exact hC.2 i (by omega)⟩
              exact ⟨S2, e2, k1, fun t a b c => (k2 t a b c).trans (by rw [xup_o c, xup_o b])⟩
          · simp only [if_neg c3] at hf ⊢
            have n40 : ¬ nI (ch k) = 40 := fun q => c3 (nI_inj (b := 40) (by omega) (by decide) q)
            rw [if_neg n40]
            by_cases c4 : ch k = 41
            · rw [if_pos c4] at hf
              have q41 : nI (ch k) = 41 := by rw [c4]; rfl
              by_cases c5 : ¬ N = 0 ∨ D = 0 ∨ P = 0
              · rw [if_pos c5] at hf; exact absurd hf (nI_n6 (by omega))
              · rw [if_neg c5] at hf
                have hD0 : 0 < D := by omega
                have hN0 : N = 0 := by omega
                have qD : ¬ (nI D ≤ 0) := nI_nle hD0 (by omega)
                obtain ⟨D', rfl⟩ : ∃ D', D = D' + 1 := ⟨D - 1, by omega⟩
                obtain ⟨S1, e1, g1, g2⟩ := cls6 hz hC (by omega)
                obtain ⟨S2, e2, k1, k2⟩ := spell6 hch d F (k + 1) D' 0 P (zcl z D') S1 (by omega) (by omega) (by omega) (by omega) hf (by rw [g2 2 (by decide)]; exact hp) (fun j hj => by rw [g2 15 (by decide)]; exact hs j hj) (zcl_ZI hz) g1
                refine ⟨S2, ?_, k1, fun t a b c => (k2 t a b c).trans (g2 t a)⟩
                obtain ⟨h17, h18⟩ := hC.2 D' (by omega)
                unfold f2_spell_J94 f2_spell_J147
                rw [if_pos q41, if_neg qD, pred_n hD0, show D' + 1 - 1 = D' by omega, xat_ok (by omega) (by decide), xat_ok (by omega) (by decide), h17, h18, e1, xbI_eq, nI_1, hN0]
                exact e2
            · rw [if_neg c4] at hf; exact absurd hf (nI_n6 (by omega))
