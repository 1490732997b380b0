/-! the queries -/
theorem q_sign {S : xSt} {a : Nat → Nat} (hA : AV a) (h : QI S a) {j : Nat} (hj : j < a 3) : f6_sign S (nI j) = some (S, some (.int (nI (mm a j)))) := by
  show f6_sign S (nI j) = some (S, some (.int (nI (a (10 + j)))))
  have hn := hA.2.2.2.1
  unfold f6_sign
  rw [if_neg (Int32.not_lt.mpr (nI_pos' (by omega))), h.1.1.2.1, if_pos (nI_lt hj (by omega)), xat_ok (by omega) (by decide), h.1.1.2.2.1 j hj]
theorem q_isCode {S : xSt} {a : Nat → Nat} (hA : AV a) (h : QI S a) {k : Nat} (hk : k < 2 ^ 30) : f6_isCode S (nI k) = some (S, some (.int (if k < (wa a) 4 0 then 1 else 0))) := by
  have hc := (AV_wfin hA).2.2.2.1
  have h6 : S 5 0 6 = nI ((wa a) 4 0) := h.2.1.2.1
  unfold f6_isCode
  rw [if_neg (Int32.not_lt.mpr (nI_pos' (by omega))), h6]
  by_cases c : k < (wa a) 4 0
  · have h2 : ¬ ((281 : Int32) ≤ nI k) := nI_ge (a := k) (b := 281) (by omega) (by omega)
    rw [if_neg (nI_ge c (by omega)), if_pos c, if_neg h2]; exact if_pos (by decide)
  · rw [if_pos (nI_le (by omega) (by omega)), if_neg c]; exact if_pos (by decide)
theorem q_ofCode {S : xSt} {a : Nat → Nat} (hA : AV a) (h : QI S a) {k : Nat} (hk : k < (wa a) 4 0) :
    f6_ofCode S (nI k) 0 = some (S, some (.int (nI ((wa a) 5 k)))) ∧ f6_ofCode S (nI k) 1 = some (S, some (.int (nI (ca a k)))) ∧ f6_ofCode S (nI k) 2 = some (S, some (.int (nI (wid ((wa a) 7 k))))) ∧ f6_ofCode S (nI k) 3 = some (S, some (.int (plv ((wa a) 5 k) ((wa a) 8 k)))) ∧ f6_ofCode S (nI k) 4 = some (S, some (.int (nI ((wa a) 6 k)))) ∧ f6_ofCode S (nI k) 5 = some (S, some (.int (nI ((wa a) 7 k)))) := by
  have hc := (AV_wfin hA).2.2.2.1
  obtain ⟨d1, d2, d3, d4, d5⟩ : S 25 0 k = nI ((wa a) 5 k) ∧ S 26 0 k = nI (wid ((wa a) 7 k)) ∧ S 27 0 k = plv ((wa a) 5 k) ((wa a) 8 k) ∧ S 28 0 k = nI ((wa a) 6 k) ∧ S 29 0 k = nI ((wa a) 7 k) := h.2.1.2.2.1 k hk
  have h6 : ∀ (y v : Int32), ((if y.toInt < 0 ∨ 5 < y.toInt then some (S, some (Value.int (-2 : Int32))) else match (y.toInt - 0).toNat with
            | 0 => some (S, some (Value.int (S 25 0 k)))
            | 1 => some (S, some (Value.int (S 32 0 k)))
            | 2 => some (S, some (Value.int (S 26 0 k)))
            | 3 => some (S, some (Value.int (S 27 0 k)))
            | 4 => some (S, some (Value.int (S 28 0 k)))
            | 5 => some (S, some (Value.int (S 29 0 k)))
            | _ => none : Option xR)) = some (S, some (Value.int v)) → f6_ofCode S (nI k) y = some (S, some (Value.int v)) := by
    intro y v h9
    unfold f6_ofCode
    rw [q_isCode hA h (by omega), xbI_eq, if_pos hk, if_neg (by decide)]
    simp only [xat_ok (show k < 281 by omega) (by decide)]
    exact h9
  refine ⟨h6 _ _ ?_, h6 _ _ ?_, h6 _ _ ?_, h6 _ _ ?_, h6 _ _ ?_, h6 _ _ ?_⟩
  · rw [← d1]; rfl
  · rw [← h.2.2.1 k hk]; rfl
  · rw [← d2]; rfl
  · rw [← d3]; rfl
  · rw [← d4]; rfl
  · rw [← d5]; rfl
theorem q_ofCode_no {S : xSt} {a : Nat → Nat} (hA : AV a) (h : QI S a) {k : Nat} (hk : (wa a) 4 0 ≤ k) (hk2 : k < 2 ^ 30) (y : Int32) : f6_ofCode S (nI k) y = some (S, some (.int (-1))) := by
  unfold f6_ofCode
  rw [q_isCode hA h hk2, xbI_eq, if_neg (show ¬ k < (wa a) 4 0 by omega), if_pos rfl]
/-- how many of n are turned -/
def cnz (f : Nat → Nat) : Nat → Nat
  | 0 => 0
  | n + 1 => cnz f n + (if f n = 0 then 0 else 1)
theorem cnz_le (f : Nat → Nat) : ∀ n, cnz f n ≤ n
  | 0 => Nat.le_refl _
  | n + 1 => by
    have := cnz_le f n
    rw [cnz]
    by_cases c : f n = 0
    · rw [if_pos c]; omega
    · rw [if_neg c]; omega
theorem f4_count_loop {S : xSt} {f : Nat → Nat} (h : ∀ k, k < 281 → S 24 0 k = nI (f k) ∧ f k < 512) : ∀ (d F i : Nat), i + d = 281 → d < F → f4_countSpoiled_L4 0 F S (nI (cnz f i)) (nI i) = some (S, some (.int (nI (cnz f 281))))
  | d, 0, _, _, h => absurd h (Nat.not_lt_zero _)
  | 0, F + 1, i, e, _ => by
    have : i = 281 := by omega
    subst this
    show b4_countSpoiled_L4 0 (f4_countSpoiled_L4 0 F) S _ _ = _
    unfold b4_countSpoiled_L4
    have h1 : (281 : Int32) ≤ nI 281 := by decide
    rw [if_pos h1]
  | d + 1, F + 1, i, e, hF => by
    show b4_countSpoiled_L4 0 (f4_countSpoiled_L4 0 F) S _ _ = _
    unfold b4_countSpoiled_L4 f4_countSpoiled_J26
    have h1 : ¬ ((281 : Int32) ≤ nI i) := nI_ge (a := i) (b := 281) (by omega) (by omega)
    obtain ⟨h2, h3⟩ := h i (by omega)
    have hr := f4_count_loop h d F (i + 1) (by omega) (by omega)
    rw [cnz] at hr
    rw [if_neg h1, xat_ok (by omega) (by decide), h2]
    by_cases c : f i = 0
    · rw [if_pos c] at hr
      have c2 : nI (f i) = 0 := by rw [c]; rfl
      rw [if_pos c2, nI_1, Int32.add_zero]
      exact hr
    · rw [if_neg c] at hr
      have c2 : ¬ nI (f i) = 0 := fun q => c (nI_inj (b := 0) (by omega) (by decide) q)
      rw [if_neg c2, nI_1, nI_1]
      exact hr
theorem q_count {S : xSt} {a : Nat → Nat} (hA : AV a) (h : QI S a) :
    f6_count S 0 = some (S, some (.int (nI (a 3)))) ∧ f6_count S 1 = some (S, some (.int (nI ((wa a) 4 0)))) ∧ f6_count S 2 = some (S, some (.int (nI (bts ((wa a) 7) ((wa a) 4 0))))) ∧ f6_count S 3 = some (S, some (.int (nI (clc ((wa a) 5) ((wa a) 4 0))))) ∧ f6_count S 4 = some (S, some (.int (nI ((wa a) 0 0)))) ∧ f6_count S 5 = some (S, some (.int (nI ((wa a) 9 0)))) ∧
    f6_count S 6 = some (S, some (.int (nI (cnz (fun k => a (250 + k)) 281)))) ∧ f6_count S 9 = some (S, some (.int (nI (a 0)))) ∧ f6_count S 10 = some (S, some (.int (nI (a 1)))) ∧ f6_count S 11 = some (S, some (.int (nI (a 2)))) := by
  have hCF : CF S 0 (wa a) := h.2.1
  have hCV := h.1.1
  refine ⟨by rw [← hCV.2.1]; rfl, by rw [← hCF.2.1]; rfl, by rw [← hCF.2.2.2.1]; rfl, by rw [← hCF.2.2.2.2.1]; rfl, by rw [← hCF.1.1]; rfl, by rw [← hCF.2.2.2.2.2.1]; rfl, ?_, by rw [← hCV.1 0 (by decide)]; rfl, by rw [← hCV.1 1 (by decide)]; rfl, by rw [← hCV.1 2 (by decide)]; rfl⟩
  show xbI (f4_countSpoiled S 0) _ = _
  have e2 := f4_count_loop (S := S) (f := fun k => a (250 + k)) (fun k hk => ⟨hCV.2.2.2 k hk, hA.2.2.2.2.2.1 k hk⟩) 281 xFU 0 (by omega) (by show 281 < 1000000; omega)
  unfold f4_countSpoiled
  rw [show nI (cnz (fun k => a (250 + k)) 0) = (0 : Int32) from rfl, show nI 0 = (0 : Int32) from rfl] at e2
  rw [e2, xbI_eq]
theorem q_entry {S : xSt} {a : Nat → Nat} (hA : AV a) (h : QI S a) {i : Nat} (hi : i < (wa a) 0 0) :
    f6_entry S (nI i) 0 = some (S, some (.int (nI (szf (wa a) i)))) ∧ f6_entry S (nI i) 1 = some (S, some (.int (if i < 10 then (if i < 8 then nI i else -6) else nI ((wa a) 2 i)))) ∧ f6_entry S (nI i) 2 = some (S, some (.int (if i < 10 then -6 else nI ((wa a) 1 i)))) := by
  obtain ⟨hW, hef, -⟩ := AV_wfin hA
  have hc := hW.2.1
  have hB : CB S 0 (wa a) := h.2.1.1
  have h04 : S 0 0 4 = nI ((wa a) 0 0) := hB.1
  have h6 : ∀ (y v : Int32), ((if y.toInt < 0 ∨ 2 < y.toInt then some (S, some (Value.int (-2 : Int32))) else match (y.toInt - 0).toNat with
            | 0 => some (S, some (Value.int (S 12 0 i)))
            | 1 => some (S, some (Value.int (S 11 0 i)))
            | 2 => some (S, some (Value.int (S 10 0 i)))
            | _ => none : Option xR)) = some (S, some (Value.int v)) → f6_entry S (nI i) y = some (S, some (Value.int v)) := by
    intro y v h9
    have h512 : nI i < 512 := nI_lt (a := i) (b := 512) (by omega) (by decide)
    unfold f6_entry
    rw [if_neg (Int32.not_lt.mpr (nI_pos' (by omega))), h04, if_neg (nI_ge hi (by omega)), if_pos h512]
    simp only [xat_ok (show i < 512 by omega) (by decide)]
    exact h9
  have hu : S 10 0 i = (if i < 10 then -6 else nI ((wa a) 1 i)) ∧ S 11 0 i = (if i < 10 then (if i < 8 then nI i else -6) else nI ((wa a) 2 i)) ∧ S 12 0 i = nI (szf (wa a) i) := by
    by_cases h10 : i < 10
    · obtain ⟨b1, b2, b3⟩ := hB.2.1 i h10
      rw [if_pos h10, if_pos h10]
      refine ⟨b1, b2, ?_⟩
      unfold szf
      by_cases h8 : i < 8
      · rw [if_pos h8] at b3 ⊢; exact b3
      · rw [if_neg h8] at b3 ⊢; rw [if_pos h10]; exact b3
    · obtain ⟨b1, b2, b3⟩ := hB.2.2.1 i (by omega) hi
      rw [if_neg h10, if_neg h10]
      refine ⟨b1, b2, ?_⟩
      unfold szf
      rw [if_neg (by omega), if_neg h10]; exact b3
  exact ⟨h6 _ _ (by rw [← hu.2.2]; rfl), h6 _ _ (by rw [← hu.2.1]; rfl), h6 _ _ (by rw [← hu.1]; rfl)⟩
theorem q_entry_no {S : xSt} {a : Nat → Nat} (hA : AV a) (h : QI S a) (y : Int32) : f6_entry S (nI ((wa a) 0 0)) y = some (S, some (.int (-1))) := by
  obtain ⟨hW, hef, -⟩ := AV_wfin hA
  have hc := hW.2.1
  have h04 : S 0 0 4 = nI ((wa a) 0 0) := h.2.1.1.1
  unfold f6_entry
  rw [if_neg (Int32.not_lt.mpr (nI_pos' (by omega))), h04, if_pos (Int32.le_refl _)]
/-- how far reading can come -/
def RO (r : wS) : Prop := r 3 0 ≤ 39621 ∧ (∀ j, j < r 3 0 → r 4 j < 8) ∧ r 0 0 ≤ 512
theorem rfa_RO {r : wS} (p y : Nat) (h : RO r) : RO (rfa r p y) := by
  unfold RO at h ⊢
  simp only [rfa_o _ _ _ (show ¬ 3 = 9 by decide) (show ¬ 3 = 10 by decide), rfa_o _ _ _ (show ¬ 4 = 9 by decide) (show ¬ 4 = 10 by decide), rfa_o _ _ _ (show ¬ 0 = 9 by decide) (show ¬ 0 = 10 by decide)]
  exact h
theorem RI_RO {r : wS} {full k : Nat} (h : RI r full k) (hf : full ≤ 512) (hk : k ≤ 281) : RO r := by
  obtain ⟨h1, h2, h3, h4, h5, h6, h7, h8⟩ := h
  have : k * (k + 1) ≤ 281 * 282 := Nat.mul_le_mul (by omega) (by omega)
  exact ⟨by omega, h6, by omega⟩
theorem rda_RO {c : Nat → Nat} {n full : Nat} (hf : 10 ≤ full ∧ full ≤ 512) (hn : n ≤ 281) : ∀ (d : Nat) (r : wS) (k : Nat), k ≤ n → RI r full k → RO (rda c n full d r k)
  | 0, r, k, hk, h => RI_RO h hf.2 (by omega)
  | d + 1, r, k, hk, h => by
    have hO := RI_RO h hf.2 (by omega)
    rw [rda]
    by_cases h1 : n ≤ k
    · rw [if_pos h1]; exact rfa_RO _ _ hO
    · rw [if_neg h1]
      by_cases h2 : c k = 9
      · rw [if_pos h2]
        by_cases h3 : k + 1 < n
        · rw [if_pos h3]; exact rfa_RO _ _ hO
        · rw [if_neg h3]; exact hO
      · rw [if_neg h2]
        by_cases h4 : c k = 8
        · rw [if_pos h4]; exact rda_RO hf hn d _ _ (by omega) (rdr_RI h hf.1)
        · rw [if_neg h4]
          by_cases h5 : rst r (c k) full = true
          · rw [if_pos h5]; exact rda_RO hf hn d _ _ (by omega) (ren_RI h h4 h2 h5).1
          · rw [if_neg h5]; exact rfa_RO _ _ hO
theorem rfin_RO {c : Nat → Nat} {n full : Nat} (hf : 16 ≤ full ∧ full ≤ 512) (hn : n ≤ 281) : RO (rfin c n full) := rda_RO (by omega) hn _ _ _ (Nat.zero_le _) (r0_RI (by omega))
theorem AV_ra {a : Nat → Nat} (h : AV a) : RO (ra a) := rfin_RO (AV_pow h) (AV_wfin h).2.2.2.1
theorem q_read {S : xSt} {a : Nat → Nat} (hA : AV a) (h : QI S a) {i : Nat} (hi : i < (ra a) 3 0) : f6_read S (nI i) = some (S, some (.int (nI ((ra a) 4 i)))) := by
  obtain ⟨o1, o2, o3⟩ := AV_ra hA
  have hCR : CR S 0 (ra a) := h.2.2.2.1
  have h1 : nI i < 39621 := nI_lt (a := i) (b := 39621) (by omega) (by decide)
  unfold f6_read
  rw [if_neg (Int32.not_lt.mpr (nI_pos' (by omega))), hCR.1, if_neg (nI_ge hi (by omega)), if_pos h1, xat_ok (by omega) (by decide), hCR.2.2.2.2.2.2 i hi]
theorem q_read_no {S : xSt} {a : Nat → Nat} (hA : AV a) (h : QI S a) : f6_read S (nI ((ra a) 3 0)) = some (S, some (.int (-1))) := by
  obtain ⟨o1, o2, o3⟩ := AV_ra hA
  have hCR : CR S 0 (ra a) := h.2.2.2.1
  unfold f6_read f6_read_J21
  rw [if_neg (Int32.not_lt.mpr (nI_pos' (by omega))), hCR.1, if_pos (Int32.le_refl _)]
theorem q_read_neg (S : xSt) : f6_read S (-1) = some (S, some (.int (-1))) := by
  unfold f6_read f6_read_J21
  rw [if_pos (by decide)]
theorem q_reading {S : xSt} {a : Nat → Nat} (hA : AV a) (h : QI S a) :
    f6_reading S 0 = some (S, some (.int (nI ((ra a) 3 0)))) ∧ f6_reading S 1 = some (S, some (.int (if (ra a) 9 0 = 0 then -6 else nI ((ra a) 10 0)))) ∧ f6_reading S 2 = some (S, some (.int (nI ((ra a) 9 0)))) ∧ f6_reading S 3 = some (S, some (.int (nI ((ra a) 0 0)))) ∧ f6_reading S 4 = some (S, some (.int (nI ((ra a) 5 0)))) ∧
    f6_reading S 5 = some (S, some (.int (if alk ((ra a) 4) (mm a) (min ((ra a) 3 0) (a 3)) 0 = (ra a) 3 0 ∧ (ra a) 3 0 = a 3 then -6 else nI (alk ((ra a) 4) (mm a) (min ((ra a) 3 0) (a 3)) 0)))) := by
  obtain ⟨o1, o2, o3⟩ := AV_ra hA
  have hn := hA.2.2.2.1
  have hCE : CE S 0 (ra a) := h.2.2.2
  refine ⟨by rw [← hCE.1.1]; rfl, by rw [← hCE.2.1]; rfl, by rw [← hCE.2.2]; rfl, by rw [← hCE.1.2.1]; rfl, by rw [← hCE.1.2.2.1]; rfl, ?_⟩
  show xbI (f3_firstDifference S 0 0 (S 4 0 3)) _ = _
  have hCR := hCE.1
  rw [h.1.1.2.1, f3_first_ok hCR.1 (fun i hi => ⟨hCR.2.2.2.2.2.2 i hi, o2 i hi⟩) o1 (h := mm a) (fun i hi => ⟨h.1.1.2.2.1 i hi, hA.2.2.2.2.1 i hi⟩) hn, xbI_eq]
