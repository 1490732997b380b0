/-! the queries over what is written -/
theorem okq {F6 F7 : xSt → Option xR} {T : wS} {v : Int32} (hA : AI T) (h6 : ∀ S, CI S T → F6 S = some (S, some (.int v)))
    (h7 : ∀ S S1, MI S T → f7_writeNow S = some (S1, none) → MB S1 (wa (T 0)) → MC S1 (wa (T 0)) → MI S1 T → F7 S = some (S1, some (.int v))) : OKc F6 F7 T := by
  refine ⟨v, T, hA, fun S hC => ⟨S, h6 S hC, hC, Cfr.rf⟩, fun S hM => ?_⟩
  obtain ⟨S1, e1, g1, g2, g3, g4⟩ := now_ok hA.1 hM
  exact ⟨S1, h7 S S1 hM e1 g1 g2 g3, g3, FM_Mfr g4⟩
theorem isCode_ok {S : xSt} {T : wS} (hA : AI T) (hC : CI S T) (x : Int32) : f6_isCode S x = some (S, some (.int (if 0 ≤ x ∧ x < nI ((wa (T 0)) 4 0) then 1 else 0))) := by
  have hc := (AV_wfin hA.1).2.2.2.1
  have h6 : S 5 0 6 = nI ((wa (T 0)) 4 0) := hC.2.2.2.2.2.2.2.2.1.2.1
  unfold f6_isCode
  by_cases h0 : x < 0
  · rw [if_pos h0, if_neg (fun q => absurd h0 (Int32.not_lt.mpr q.1))]; exact if_pos (by decide)
  · rw [if_neg h0, h6]
    by_cases h1 : nI ((wa (T 0)) 4 0) ≤ x
    · rw [if_pos h1, if_neg (fun q => absurd q.2 (Int32.not_lt.mpr h1))]; exact if_pos (by decide)
    · have hp : 0 ≤ x ∧ x < nI ((wa (T 0)) 4 0) := ⟨Int32.not_lt.mp h0, Int32.not_le.mp h1⟩
      rw [if_neg h1, if_pos hp]
      obtain ⟨j, hj, rfl⟩ := arg_lt (by omega) h0 (Int32.not_le.mp h1)
      have h2 : ¬ ((281 : Int32) ≤ nI j) := nI_ge (a := j) (b := 281) (by omega) (by omega)
      rw [if_neg h2]; exact if_pos (by decide)
theorem ofCode_ok {T : wS} (hA : AI T) (x y : Int32) : OKc (fun S => f6_ofCode S x y) (fun S => f7_ofCode S x y) T := by
  have hc := (AV_wfin hA.1).2.2.2.1
  have hin : ∀ S S1, f7_writeNow S = some (S1, none) → MC S1 (wa (T 0)) → ∀ k : xSt → Int32 → Option xR, (xbV (f7_writeNow S) fun S1 => xbI (f7_in S1 x (0 : Int32) ((S1 7 0 17) - (1 : Int32))) fun S2 r3 => k S2 r3) = k S1 (if 0 ≤ x ∧ x < nI ((wa (T 0)) 4 0) then 1 else 0) := by
    intro S S1 e1 hMC k
    rw [e1, xbV_eq, hMC.1, in_lt _ _ (by omega), xbI_eq]
  by_cases c : 0 ≤ x ∧ x < nI ((wa (T 0)) 4 0)
  · obtain ⟨i, hi, rfl⟩ := arg_lt (by omega) (Int32.not_lt.mpr c.1) c.2
    rcases arg_sw y 5 (by decide) with hy | ⟨j, hj, rfl⟩
    · refine okq (v := -2) hA (fun S hC => ?_) (fun S S1 hM e1 hMB hMC hM1 => ?_)
      · show f6_ofCode S (nI i) y = _
        unfold f6_ofCode
        rw [isCode_ok hA hC, xbI_eq, if_pos c, if_neg (by decide)]
        exact if_pos hy
      · show f7_ofCode S (nI i) y = _
        unfold f7_ofCode
        rw [hin S S1 e1 hMC, if_pos c, if_neg (by decide)]
        have hy4 : y.toInt < 0 ∨ 4 < y.toInt := by
          rcases hy with q | q
          · exact Or.inl q
          · exact Or.inr (by omega)
        have hy5 : ¬ y = 5 := fun q => by rw [q] at hy; exact absurd hy (by decide)
        rw [if_pos hy4, if_neg hy5]
    · have h6 : ∀ S, CI S T → ∀ v, ((if (nI j).toInt < 0 ∨ 5 < (nI j).toInt then some (S, some (Value.int (-2 : Int32))) else match ((nI j).toInt - 0).toNat with
            | 0 => some (S, some (Value.int (S 25 0 i)))
            | 1 => some (S, some (Value.int (S 32 0 i)))
            | 2 => some (S, some (Value.int (S 26 0 i)))
            | 3 => some (S, some (Value.int (S 27 0 i)))
            | 4 => some (S, some (Value.int (S 28 0 i)))
            | 5 => some (S, some (Value.int (S 29 0 i)))
            | _ => none : Option xR)) = some (S, some (Value.int v)) → f6_ofCode S (nI i) (nI j) = some (S, some (Value.int v)) := by
        intro S hC v h
        unfold f6_ofCode
        rw [isCode_ok hA hC, xbI_eq, if_pos c, if_neg (by decide)]
        simp only [xat_ok (show i < 281 by omega) (by decide)]
        exact h
      have h7 : ∀ S S1, f7_writeNow S = some (S1, none) → MC S1 (wa (T 0)) → ∀ v, ((if (nI j).toInt < 0 ∨ 4 < (nI j).toInt then (if nI j = 5 then some (S1, some (Value.int (S1 46 0 i))) else some (S1, some (Value.int (-2 : Int32)))) else match ((nI j).toInt - 0).toNat with
            | 0 => some (S1, some (Value.int (S1 42 0 i)))
            | 1 => some (S1, some (Value.int ((S1 42 0 i) ^^^ (S1 33 0 (250 + i)))))
            | 2 => some (S1, some (Value.int (S1 43 0 i)))
            | 3 => some (S1, some (Value.int (S1 44 0 i)))
            | 4 => some (S1, some (Value.int (S1 45 0 i)))
            | _ => none : Option xR)) = some (S1, some (Value.int v)) → f7_ofCode S (nI i) (nI j) = some (S1, some (Value.int v)) := by
        intro S S1 e1 hMC v h
        unfold f7_ofCode
        rw [hin S S1 e1 hMC, if_pos c, if_neg (by decide)]
        have e250 : (250 : Int32) + nI i = nI (250 + i) := by rw [← nI_add]; rfl
        rw [e250]
        simp only [xat_ok (show i < 300 by omega) (by decide), xat_ok (show 250 + i < 560 by omega) (by decide)]
        exact h
      have hd : ∀ S, CI S T → S 25 0 i = nI ((wa (T 0)) 5 i) ∧ S 26 0 i = nI (wid ((wa (T 0)) 7 i)) ∧ S 27 0 i = plv ((wa (T 0)) 5 i) ((wa (T 0)) 8 i) ∧ S 28 0 i = nI ((wa (T 0)) 6 i) ∧ S 29 0 i = nI ((wa (T 0)) 7 i) := fun S hC => hC.2.2.2.2.2.2.2.2.1.2.2.1 i hi
      have h5 : j = 0 ∨ j = 1 ∨ j = 2 ∨ j = 3 ∨ j = 4 ∨ j = 5 := by omega
      rcases h5 with rfl | rfl | rfl | rfl | rfl | rfl
      · exact okq (v := nI ((wa (T 0)) 5 i)) hA (fun S hC => h6 S hC _ (by rw [← (hd S hC).1]; rfl)) (fun S S1 hM e1 hMB hMC hM1 => h7 S S1 e1 hMC _ (by rw [← (hMC.2.1 i hi).1]; rfl))
      · exact okq (v := nI (ca (T 0) i)) hA (fun S hC => h6 S hC _ (by rw [← hC.2.2.2.2.2.2.2.2.2.1 i hi]; rfl)) (fun S S1 hM e1 hMB hMC hM1 => h7 S S1 e1 hMC _ (by
          rw [← (AV_ca hA.1 hi).1, ← (hMC.2.1 i hi).1, ← MV0 hM1.1 (i := 250 + i) (by omega) (by omega)]; rfl))
      · exact okq (v := nI (wid ((wa (T 0)) 7 i))) hA (fun S hC => h6 S hC _ (by rw [← (hd S hC).2.1]; rfl)) (fun S S1 hM e1 hMB hMC hM1 => h7 S S1 e1 hMC _ (by rw [← (hMC.2.1 i hi).2.1]; rfl))
      · exact okq (v := plv ((wa (T 0)) 5 i) ((wa (T 0)) 8 i)) hA (fun S hC => h6 S hC _ (by rw [← (hd S hC).2.2.1]; rfl)) (fun S S1 hM e1 hMB hMC hM1 => h7 S S1 e1 hMC _ (by rw [← (hMC.2.1 i hi).2.2.1]; rfl))
      · exact okq (v := nI ((wa (T 0)) 6 i)) hA (fun S hC => h6 S hC _ (by rw [← (hd S hC).2.2.2.1]; rfl)) (fun S S1 hM e1 hMB hMC hM1 => h7 S S1 e1 hMC _ (by rw [← (hMC.2.1 i hi).2.2.2.1]; rfl))
      · exact okq (v := nI ((wa (T 0)) 7 i)) hA (fun S hC => h6 S hC _ (by rw [← (hd S hC).2.2.2.2]; rfl)) (fun S S1 hM e1 hMB hMC hM1 => h7 S S1 e1 hMC _ (by rw [← (hMC.2.1 i hi).2.2.2.2]; rfl))
  · refine okq (v := -1) hA (fun S hC => ?_) (fun S S1 hM e1 hMB hMC hM1 => ?_)
    · show f6_ofCode S x y = _
      unfold f6_ofCode
      rw [isCode_ok hA hC, xbI_eq, if_neg c, if_pos rfl]
    · show f7_ofCode S x y = _
      unfold f7_ofCode
      rw [hin S S1 e1 hMC, if_neg c, if_pos rfl]
