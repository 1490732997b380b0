/-! entry, count -/
theorem entry_ok {T : wS} (hA : AI T) (x y : Int32) : OKc (fun S => f6_entry S x y) (fun S => f7_entry S x y) T := by
  obtain ⟨hW, hef, -⟩ := AV_wfin hA.1
  have hc := hW.2.1
  have hin : ∀ S S1, f7_writeNow S = some (S1, none) → MB S1 (wa (T 0)) → ∀ k : xSt → Int32 → Option xR, (xbV (f7_writeNow S) fun S1 => xbI (f7_in S1 x (0 : Int32) ((S1 7 0 11) - (1 : Int32))) fun S2 r3 => k S2 r3) = k S1 (if 0 ≤ x ∧ x < nI ((wa (T 0)) 0 0) then 1 else 0) := by
    intro S S1 e1 hMB k
    rw [e1, xbV_eq, hMB.1, in_lt _ _ (by omega), xbI_eq]
  by_cases c : 0 ≤ x ∧ x < nI ((wa (T 0)) 0 0)
  · obtain ⟨i, hi, rfl⟩ := arg_lt (by omega) (Int32.not_lt.mpr c.1) c.2
    have h6 : ∀ S, CI S T → ∀ v, ((if y.toInt < 0 ∨ 2 < y.toInt then some (S, some (Value.int (-2 : Int32))) else match (y.toInt - 0).toNat with
            | 0 => some (S, some (Value.int (S 12 0 i)))
            | 1 => some (S, some (Value.int (S 11 0 i)))
            | 2 => some (S, some (Value.int (S 10 0 i)))
            | _ => none : Option xR)) = some (S, some (Value.int v)) → f6_entry S (nI i) y = some (S, some (Value.int v)) := by
      intro S hC v h
      have h04 : S 0 0 4 = nI ((wa (T 0)) 0 0) := hC.2.2.2.2.2.2.2.2.1.1.1
      have h512 : nI i < 512 := nI_lt (a := i) (b := 512) (by omega) (by decide)
      unfold f6_entry
      rw [if_neg (Int32.not_lt.mpr c.1), h04, if_neg (Int32.not_le.mpr c.2), if_pos h512]
      simp only [xat_ok (show i < 512 by omega) (by decide)]
      exact h
    have h7 : ∀ S S1, f7_writeNow S = some (S1, none) → MB S1 (wa (T 0)) → ∀ v, ((if y = 0 then some (S1, some (Value.int (S1 41 0 i))) else if y = 1 then some (S1, some (Value.int (S1 39 0 i))) else if y = 2 then some (S1, some (Value.int (S1 38 0 i))) else some (S1, some (Value.int (-2 : Int32))) : Option xR)) = some (S1, some (Value.int v)) → f7_entry S (nI i) y = some (S1, some (Value.int v)) := by
      intro S S1 e1 hMB v h
      unfold f7_entry
      rw [hin S S1 e1 hMB, if_pos c, if_neg (by decide)]
      simp only [xat_ok (show i < 512 by omega) (by decide)]
      exact h
    have hd : ∀ S S1, CI S T → MB S1 (wa (T 0)) → S 10 0 i = S1 38 0 i ∧ S 11 0 i = S1 39 0 i ∧ S 12 0 i = S1 41 0 i := by
      intro S S1 hC hMB
      have hB : CB S 0 (wa (T 0)) := hC.2.2.2.2.2.2.2.2.1.1
      by_cases h10 : i < 10
      · obtain ⟨b1, b2, b3⟩ := hB.2.1 i h10
        obtain ⟨m1, m2, m3, m4⟩ := hMB.2.1 i h10
        exact ⟨b1.trans m1.symm, b2.trans m2.symm, b3.trans m4.symm⟩
      · obtain ⟨b1, b2, b3⟩ := hB.2.2.1 i (by omega) hi
        obtain ⟨m1, m2, m3⟩ := hMB.2.2 i (by omega) hi
        exact ⟨b1.trans m1.symm, b2.trans m2.symm, b3.trans m3.symm⟩
    have hv : ∀ S1, MB S1 (wa (T 0)) → S1 38 0 i = (if i < 10 then -6 else nI ((wa (T 0)) 1 i)) ∧ S1 39 0 i = (if i < 10 then (if i < 8 then nI i else -6) else nI ((wa (T 0)) 2 i)) ∧ S1 41 0 i = nI (szf (wa (T 0)) i) := by
      intro S1 hMB
      refine ⟨?_, ?_, MB_41 hMB hi⟩
      · by_cases h10 : i < 10
        · rw [if_pos h10]; exact (hMB.2.1 i h10).1
        · rw [if_neg h10]; exact (hMB.2.2 i (by omega) hi).1
      · by_cases h10 : i < 10
        · rw [if_pos h10]; exact (hMB.2.1 i h10).2.1
        · rw [if_neg h10]; exact (hMB.2.2 i (by omega) hi).2.1
    have hu : ∀ S, CI S T → S 10 0 i = (if i < 10 then -6 else nI ((wa (T 0)) 1 i)) ∧ S 11 0 i = (if i < 10 then (if i < 8 then nI i else -6) else nI ((wa (T 0)) 2 i)) ∧ S 12 0 i = nI (szf (wa (T 0)) i) := by
      intro S hC
      have hB : CB S 0 (wa (T 0)) := hC.2.2.2.2.2.2.2.2.1.1
      by_cases h10 : i < 10
      · obtain ⟨b1, b2, b3⟩ := hB.2.1 i h10
        rw [if_pos h10, if_pos h10]
        refine ⟨b1, b2, ?_⟩
        unfold szf
        by_cases h8 : i < 8
        · rw [if_pos h8] at b3 ⊢; exact b3
        · rw [if_neg h8] at b3 ⊢; rw [if_pos h10]; exact b3
      · obtain ⟨b1, b2, b3⟩ := hB.2.2.1 i (by omega) hi
        rw [if_neg h10, if_neg h10]
        refine ⟨b1, b2, ?_⟩
        unfold szf
        rw [if_neg (by omega), if_neg h10]; exact b3
    rcases arg_sw y 2 (by decide) with hy | ⟨j, hj, rfl⟩
    · refine okq (v := -2) hA (fun S hC => h6 S hC _ (if_pos hy)) (fun S S1 hM e1 hMB hMC hM1 => h7 S S1 e1 hMB _ ?_)
      have n0 : ¬ y = 0 := fun q => by rw [q] at hy; exact absurd hy (by decide)
      have n1 : ¬ y = 1 := fun q => by rw [q] at hy; exact absurd hy (by decide)
      have n2 : ¬ y = 2 := fun q => by rw [q] at hy; exact absurd hy (by decide)
      rw [if_neg n0, if_neg n1, if_neg n2]
    · have h5 : j = 0 ∨ j = 1 ∨ j = 2 := by omega
      rcases h5 with rfl | rfl | rfl
      · exact okq (v := nI (szf (wa (T 0)) i)) hA (fun S hC => h6 S hC _ (by rw [← (hu S hC).2.2]; rfl)) (fun S S1 hM e1 hMB hMC hM1 => h7 S S1 e1 hMB _ (by rw [← (hv S1 hMB).2.2]; rfl))
      · exact okq (v := (if i < 10 then (if i < 8 then nI i else -6) else nI ((wa (T 0)) 2 i))) hA (fun S hC => h6 S hC _ (by rw [← (hu S hC).2.1]; rfl)) (fun S S1 hM e1 hMB hMC hM1 => h7 S S1 e1 hMB _ (by rw [← (hv S1 hMB).2.1]; rfl))
      · exact okq (v := (if i < 10 then -6 else nI ((wa (T 0)) 1 i))) hA (fun S hC => h6 S hC _ (by rw [← (hu S hC).1]; rfl)) (fun S S1 hM e1 hMB hMC hM1 => h7 S S1 e1 hMB _ (by rw [← (hv S1 hMB).1]; rfl))
  · refine okq (v := -1) hA (fun S hC => ?_) (fun S S1 hM e1 hMB hMC hM1 => ?_)
    · show f6_entry S x y = _
      have h04 : S 0 0 4 = nI ((wa (T 0)) 0 0) := hC.2.2.2.2.2.2.2.2.1.1.1
      unfold f6_entry
      by_cases h0 : x < 0
      · rw [if_pos h0]
      · have h1 : nI ((wa (T 0)) 0 0) ≤ x := Int32.not_lt.mp (fun q => c ⟨Int32.not_lt.mp h0, q⟩)
        rw [if_neg h0, h04, if_pos h1]
    · show f7_entry S x y = _
      unfold f7_entry
      rw [hin S S1 e1 hMB, if_neg c, if_pos rfl]
/-- how many of n are turned -/
def cnz (f : Nat → Nat) : Nat → Nat
  | 0 => 0
  | n + 1 => cnz f n + (if f n = 0 then 0 else 1)
theorem cnz_le (f : Nat → Nat) : ∀ n, cnz f n ≤ n
  | 0 => Nat.le_refl _
  | n + 1 => by
    have := cnz_le f n
    rw [cnz]
    by_cases c : f n = 0
    · rw [if_pos c]; omega
    · rw [if_neg c]; omega
theorem cnz_end (f : Nat → Nat) : ∀ d, (∀ k, 281 ≤ k → k < 281 + d → f k = 0) → cnz f (281 + d) = cnz f 281
  | 0, _ => rfl
  | d + 1, h => by
    show cnz f (281 + d + 1) = _
    rw [cnz, if_pos (h (281 + d) (by omega) (by omega)), cnz_end f d (fun k a b => h k a (by omega)), Nat.add_zero]
theorem f4_count_loop {S : xSt} {f : Nat → Nat} (h : ∀ k, k < 281 → S 24 0 k = nI (f k) ∧ f k < 512) : ∀ (d F i : Nat), i + d = 281 → d < F → f4_countSpoiled_L4 0 F S (nI (cnz f i)) (nI i) = some (S, some (.int (nI (cnz f 281))))
  | d, 0, _, _, h => absurd h (Nat.not_lt_zero _)
  | 0, F + 1, i, e, _ => by
    have : i = 281 := by omega
    subst this
    show b4_countSpoiled_L4 0 (f4_countSpoiled_L4 0 F) S _ _ = _
    unfold b4_countSpoiled_L4
    have h1 : (281 : Int32) ≤ nI 281 := by decide
    rw [if_pos h1]
  | d + 1, F + 1, i, e, hF => by
    show b4_countSpoiled_L4 0 (f4_countSpoiled_L4 0 F) S _ _ = _
    unfold b4_countSpoiled_L4 f4_countSpoiled_J26
    have h1 : ¬ ((281 : Int32) ≤ nI i) := nI_ge (a := i) (b := 281) (by omega) (by omega)
    obtain ⟨h2, h3⟩ := h i (by omega)
    have hr := f4_count_loop h d F (i + 1) (by omega) (by omega)
    rw [cnz] at hr
    rw [if_neg h1, xat_ok (by omega) (by decide), h2]
    by_cases c : f i = 0
    · rw [if_pos c] at hr
      have c2 : nI (f i) = 0 := by rw [c]; rfl
      rw [if_pos c2, nI_1, Int32.add_zero]
      exact hr
    · rw [if_neg c] at hr
      have c2 : ¬ nI (f i) = 0 := fun q => c (nI_inj (b := 0) (by omega) (by decide) q)
      rw [if_neg c2, nI_1, nI_1]
      exact hr
theorem f7_count_loop {S : xSt} {f : Nat → Nat} (h : ∀ k, k < 310 → S 33 0 (250 + k) = nI (f k) ∧ f k < 512) : ∀ (d F i : Nat), i + d = 310 → d < F → f7_spoiled_L6 F S (nI (cnz f i)) (nI (250 + i)) = some (S, some (.int (nI (cnz f 310))))
  | d, 0, _, _, h => absurd h (Nat.not_lt_zero _)
  | 0, F + 1, i, e, _ => by
    have : i = 310 := by omega
    subst this
    show b7_spoiled_L6 (f7_spoiled_L6 F) S _ _ = _
    unfold b7_spoiled_L6
    have h1 : (560 : Int32) ≤ nI (250 + 310) := by decide
    rw [if_pos h1]
  | d + 1, F + 1, i, e, hF => by
    show b7_spoiled_L6 (f7_spoiled_L6 F) S _ _ = _
    unfold b7_spoiled_L6 f7_spoiled_J28
    have h1 : ¬ ((560 : Int32) ≤ nI (250 + i)) := nI_ge (a := 250 + i) (b := 560) (by omega) (by omega)
    obtain ⟨h2, h3⟩ := h i (by omega)
    have hr := f7_count_loop h d F (i + 1) (by omega) (by omega)
    rw [cnz, ← Nat.add_assoc] at hr
    rw [if_neg h1, xat_ok (by omega) (by decide), h2]
    by_cases c : f i = 0
    · rw [if_pos c] at hr
      have c2 : nI (f i) = 0 := by rw [c]; rfl
      rw [if_pos c2, nI_1, Int32.add_zero]
      exact hr
    · rw [if_neg c] at hr
      have c2 : ¬ nI (f i) = 0 := fun q => c (nI_inj (b := 0) (by omega) (by decide) q)
      rw [if_neg c2, nI_1, nI_1]
      exact hr
theorem f7_clears_loop {S : xSt} {w : wS} (hC : MC S w) (hc : w 4 0 ≤ 281) (hw : WC w) : ∀ (d F i : Nat), i + d = w 4 0 → d < F → f7_clears_L4 F S (nI (clc (w 5) i)) (nI i) = some (S, some (.int (nI (clc (w 5) (w 4 0)))))
  | d, 0, _, _, h => absurd h (Nat.not_lt_zero _)
  | 0, F + 1, i, e, _ => by
    show b7_clears_L4 (f7_clears_L4 F) S _ _ = _
    unfold b7_clears_L4
    rw [hC.1, if_pos (nI_le (by omega) (by omega)), show i = w 4 0 by omega]
  | d + 1, F + 1, i, e, hF => by
    show b7_clears_L4 (f7_clears_L4 F) S _ _ = _
    unfold b7_clears_L4 f7_clears_J29
    have hr := f7_clears_loop hC hc hw d F (i + 1) (by omega) (by omega)
    rw [clc] at hr
    rw [hC.1, if_neg (nI_ge (by omega) (by omega)), xat_ok (by omega) (by decide), (hC.2.1 i (by omega)).1]
    have h3 := hw i (by omega)
    by_cases c : w 5 i = 8
    · rw [if_pos c] at hr
      have c2 : nI (w 5 i) = 8 := by rw [c]; rfl
      rw [if_pos c2, nI_1, nI_1]
      exact hr
    · rw [if_neg c] at hr
      have c2 : ¬ nI (w 5 i) = 8 := fun q => c (nI_inj (b := 8) (by omega) (by decide) q)
      rw [if_neg c2, nI_1, Int32.add_zero]
      exact hr
theorem count_ok {T : wS} (hA : AI T) (x : Int32) : OKc (fun S => f6_count S x) (fun S => f7_count S x) T := by
  obtain ⟨hW, hef, hc1, hc, h9⟩ := AV_wfin hA.1
  have hWC : WC (wa (T 0)) := fun k hk => AV_code hA.1 hk
  have hn := hA.1.2.2.2.1
  -- 9 to 11: a setting
  rcases arg_sw x 11 (by decide) with hx | ⟨j, hj, rfl⟩
  · refine okq (v := -2) hA (fun S hC => ?_) (fun S S1 hM e1 hMB hMC hM1 => ?_)
    · show f6_count S x = _
      unfold f6_count
      exact if_pos hx
    · show f7_count S x = _
      have n1 : ¬ ((9 : Int32) ≤ x ∧ x ≤ 11) := by
        intro q
        rw [Int32.le_iff_toInt_le, Int32.le_iff_toInt_le] at q
        have e9 : (9 : Int32).toInt = 9 := rfl
        have e11 : (11 : Int32).toInt = 11 := rfl
        omega
      have n2 : x.toInt < 0 ∨ 7 < x.toInt := by omega
      have n3 : ¬ x = 8 := fun q => by rw [q] at hx; exact absurd hx (by decide)
      unfold f7_count
      rw [f7_in_ok, xbI_eq, if_neg n1, if_pos rfl, e1, xbV_eq, if_pos n2, if_neg n3]
  · have hset : ∀ i, i < 3 → OKc (fun S => f6_count S (nI (9 + i))) (fun S => f7_count S (nI (9 + i))) T := by
      intro i hi
      refine ⟨nI (T 0 i), T, hA, fun S hC => ⟨S, ?_, hC, Cfr.rf⟩, fun S hM => ⟨S, ?_, hM, Mfr.rf⟩⟩
      · have hs := hC.1.1 i hi
        have h5 : i = 0 ∨ i = 1 ∨ i = 2 := by omega
        rcases h5 with rfl | rfl | rfl
        · rw [← hs]; rfl
        · rw [← hs]; rfl
        · rw [← hs]; rfl
      · have hs := MV0 hM.1 (i := i) (by omega) (by omega)
        have h5 : i = 0 ∨ i = 1 ∨ i = 2 := by omega
        rcases h5 with rfl | rfl | rfl
        · rw [← hs]; rfl
        · rw [← hs]; rfl
        · rw [← hs]; rfl
    have h7 : j ≤ 8 → ∀ S S1, f7_writeNow S = some (S1, none) → f7_count S (nI j) = (if (nI j).toInt < 0 ∨ 7 < (nI j).toInt then (if nI j = 8 then some (S1, some (Value.int (S1 7 0 2))) else some (S1, some (Value.int (-2 : Int32)))) else match ((nI j).toInt - 0).toNat with
        | 0 => xat (3 : Int32) 560 fun j4 => some (S1, some (Value.int (S1 33 0 j4)))
        | 1 => some (S1, some (Value.int (S1 7 0 17)))
        | 2 => xbI (f7_bits S1) fun S5 r6 => some (S5, some (Value.int r6))
        | 3 => xbI (f7_clears S1) fun S7 r8 => some (S7, some (Value.int r8))
        | 4 => some (S1, some (Value.int (S1 7 0 11)))
        | 5 => some (S1, some (Value.int (S1 7 0 18)))
        | 6 => xbI (f7_spoiled S1) fun S9 r10 => some (S9, some (Value.int r10))
        | 7 => some (S1, some (Value.int (S1 7 0 6)))
        | _ => none : Option xR) := by
      intro hj8 S S1 e1
      have n1 : ¬ ((9 : Int32) ≤ nI j ∧ nI j ≤ 11) := fun q => absurd q.1 (nI_ge (a := j) (b := 9) (by omega) (by omega))
      unfold f7_count
      rw [f7_in_ok, xbI_eq, if_neg n1, if_pos rfl, e1, xbV_eq]
      rfl
    have h12 : j = 0 ∨ j = 1 ∨ j = 2 ∨ j = 3 ∨ j = 4 ∨ j = 5 ∨ j = 6 ∨ j = 7 ∨ j = 8 ∨ j = 9 ∨ j = 10 ∨ j = 11 := by omega
    have hCF : ∀ S, CI S T → CF S 0 (wa (T 0)) := fun S hC => hC.2.2.2.2.2.2.2.2.1
    rcases h12 with rfl | rfl | rfl | rfl | rfl | rfl | rfl | rfl | rfl | rfl | rfl | rfl
    · exact okq (v := nI (T 0 3)) hA (fun S hC => by rw [← hC.1.2.1]; rfl) (fun S S1 hM e1 hMB hMC hM1 => by
        show f7_count S (nI 0) = _
        rw [h7 (by decide) S S1 e1, ← MV0 hM1.1 (i := 3) (by omega) (by omega)]; rfl)
    · exact okq (v := nI ((wa (T 0)) 4 0)) hA (fun S hC => by rw [← (hCF S hC).2.1]; rfl) (fun S S1 hM e1 hMB hMC hM1 => by
        show f7_count S (nI 1) = _
        rw [h7 (by decide) S S1 e1, ← hMC.1]; rfl)
    · exact okq (v := nI (bts ((wa (T 0)) 7) ((wa (T 0)) 4 0))) hA (fun S hC => by rw [← (hCF S hC).2.2.2.1]; rfl) (fun S S1 hM e1 hMB hMC hM1 => by
        show f7_count S (nI 2) = _
        rw [h7 (by decide) S S1 e1]
        show xbI (f7_bits S1) _ = _
        rw [f7_bits_ok hMC (by omega), xbI_eq])
    · exact okq (v := nI (clc ((wa (T 0)) 5) ((wa (T 0)) 4 0))) hA (fun S hC => by rw [← (hCF S hC).2.2.2.2.1]; rfl) (fun S S1 hM e1 hMB hMC hM1 => by
        show f7_count S (nI 3) = _
        rw [h7 (by decide) S S1 e1]
        show xbI (f7_clears S1) _ = _
        have e2 := f7_clears_loop hMC hc hWC ((wa (T 0)) 4 0) xFU 0 (by omega) (by show _ < 1000000; omega)
        unfold f7_clears
        rw [show nI (clc ((wa (T 0)) 5) 0) = (0 : Int32) from rfl, show nI 0 = (0 : Int32) from rfl] at e2
        rw [e2, xbI_eq])
    · exact okq (v := nI ((wa (T 0)) 0 0)) hA (fun S hC => by rw [← (hCF S hC).1.1]; rfl) (fun S S1 hM e1 hMB hMC hM1 => by
        show f7_count S (nI 4) = _
        rw [h7 (by decide) S S1 e1, ← hMB.1]; rfl)
    · exact okq (v := nI ((wa (T 0)) 9 0)) hA (fun S hC => by rw [← (hCF S hC).2.2.2.2.2.1]; rfl) (fun S S1 hM e1 hMB hMC hM1 => by
        show f7_count S (nI 5) = _
        rw [h7 (by decide) S S1 e1, ← hMC.2.2]; rfl)
    · refine okq (v := nI (cnz (fun k => T 0 (250 + k)) 281)) hA (fun S hC => ?_) (fun S S1 hM e1 hMB hMC hM1 => ?_)
      · show xbI (f4_countSpoiled S 0) _ = _
        have e2 := f4_count_loop (S := S) (f := fun k => T 0 (250 + k)) (fun k hk => ⟨hC.1.2.2.2 k hk, hA.1.2.2.2.2.2.1 k hk⟩) 281 xFU 0 (by omega) (by show 281 < 1000000; omega)
        unfold f4_countSpoiled
        rw [show nI (cnz (fun k => T 0 (250 + k)) 0) = (0 : Int32) from rfl, show nI 0 = (0 : Int32) from rfl] at e2
        rw [e2, xbI_eq]
      · show f7_count S (nI 6) = _
        rw [h7 (by decide) S S1 e1]
        show xbI (f7_spoiled S1) _ = _
        have e2 := f7_count_loop (S := S1) (f := fun k => T 0 (250 + k)) (fun k hk => ⟨MV0 hM1.1 (by omega) (by omega), by
          show T 0 (250 + k) < 512
          by_cases h : k < 281
          · exact hA.1.2.2.2.2.2.1 k h
          · rw [hA.1.2.2.2.2.2.2 k (by omega) (by omega)]; decide⟩) 310 xFU 0 (by omega) (by show 310 < 1000000; omega)
        unfold f7_spoiled
        rw [show nI (cnz (fun k => T 0 (250 + k)) 0) = (0 : Int32) from rfl, show nI (250 + 0) = (250 : Int32) from rfl] at e2
        rw [e2, xbI_eq]
        have := cnz_end (fun k => T 0 (250 + k)) 29 (fun k a b => hA.1.2.2.2.2.2.2 k a (by omega))
        rw [show 310 = 281 + 29 by decide, this]
    · exact okq (v := nI (T 1 1)) hA (fun S hC => by rw [← hC.2.2.2.2.1]; rfl) (fun S S1 hM e1 hMB hMC hM1 => by
        show f7_count S (nI 7) = _
        rw [h7 (by decide) S S1 e1, ← hM1.2.2.2.2.1]; rfl)
    · exact okq (v := nI (T 1 0)) hA (fun S hC => by rw [← hC.2.1]; rfl) (fun S S1 hM e1 hMB hMC hM1 => by
        show f7_count S (nI 8) = _
        rw [h7 (by decide) S S1 e1, ← hM1.2.1]; rfl)
    · exact hset 0 (by decide)
    · exact hset 1 (by decide)
    · exact hset 2 (by decide)
