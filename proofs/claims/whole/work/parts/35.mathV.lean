/-! reading, read -/
/-- how far reading can come -/
def RO (r : wS) : Prop := r 3 0 ≤ 39621 ∧ (∀ j, j < r 3 0 → r 4 j < 8) ∧ r 0 0 ≤ 512
theorem rfa_RO {r : wS} (p y : Nat) (h : RO r) : RO (rfa r p y) := by
  unfold RO at h ⊢
  simp only [rfa_o _ _ _ (show ¬ 3 = 9 by decide) (show ¬ 3 = 10 by decide), rfa_o _ _ _ (show ¬ 4 = 9 by decide) (show ¬ 4 = 10 by decide), rfa_o _ _ _ (show ¬ 0 = 9 by decide) (show ¬ 0 = 10 by decide)]
  exact h
theorem RI_RO {r : wS} {full k : Nat} (h : RI r full k) (hf : full ≤ 512) (hk : k ≤ 281) : RO r := by
  obtain ⟨h1, h2, h3, h4, h5, h6, h7, h8⟩ := h
  have : k * (k + 1) ≤ 281 * 282 := Nat.mul_le_mul (by omega) (by omega)
  exact ⟨by omega, h6, by omega⟩
theorem rda_RO {c : Nat → Nat} {n full : Nat} (hf : 10 ≤ full ∧ full ≤ 512) (hn : n ≤ 281) : ∀ (d : Nat) (r : wS) (k : Nat), k ≤ n → RI r full k → RO (rda c n full d r k)
  | 0, r, k, hk, h => RI_RO h hf.2 (by omega)
  | d + 1, r, k, hk, h => by
    have hO := RI_RO h hf.2 (by omega)
    rw [rda]
    by_cases h1 : n ≤ k
    · rw [if_pos h1]; exact rfa_RO _ _ hO
    · rw [if_neg h1]
      by_cases h2 : c k = 9
      · rw [if_pos h2]
        by_cases h3 : k + 1 < n
        · rw [if_pos h3]; exact rfa_RO _ _ hO
        · rw [if_neg h3]; exact hO
      · rw [if_neg h2]
        by_cases h4 : c k = 8
        · rw [if_pos h4]; exact rda_RO hf hn d _ _ (by omega) (rdr_RI h hf.1)
        · rw [if_neg h4]
          by_cases h5 : rst r (c k) full = true
          · rw [if_pos h5]; exact rda_RO hf hn d _ _ (by omega) (ren_RI h h4 h2 h5).1
          · rw [if_neg h5]; exact rfa_RO _ _ hO
theorem rfin_RO {c : Nat → Nat} {n full : Nat} (hf : 16 ≤ full ∧ full ≤ 512) (hn : n ≤ 281) : RO (rfin c n full) := rda_RO (by omega) hn _ _ _ (Nat.zero_le _) (r0_RI (by omega))
theorem AV_ra {a : Nat → Nat} (h : AV a) : RO (ra a) := rfin_RO (AV_pow h) (AV_wfin h).2.2.2.1
/-- the reference reads now -/
theorem read_now {S1 : xSt} {T : wS} (hA : AI T) (hM : MI S1 T) (hMC : MC S1 (wa (T 0))) : ∃ S2, f7_readCodes S1 (-6) = some (S2, none) ∧ ME S2 (ra (T 0)) ∧ MI S2 T ∧ FR S1 S2 := by
  have hn := (AV_wfin hA.1).2.2.2.1
  have hV : VK S1 (-6) ((wa (T 0)) 4 0) (ca (T 0)) := by
    refine ⟨hMC.1, fun k hk => ⟨?_, (AV_ca hA.1 hk).2⟩⟩
    unfold rv
    rw [if_neg (by decide), (hMC.2.1 k hk).1, MV0 hM.1 (i := 250 + k) (by omega) (by omega), (AV_ca hA.1 hk).1]
  obtain ⟨S2, e2, g1, g2⟩ := f7_readCodes_ok (S := S1) (i1 := -6) (n := (wa (T 0)) 4 0) (wd := T 0 0) (c := ca (T 0)) hA.1.1.1 hA.1.1.2 hn (MV0 hM.1 (by omega) (by omega)) hV
  exact ⟨S2, e2, g1, MI_FR hM g2, g2⟩
theorem okr {F6 F7 : xSt → Option xR} {T : wS} {v : Int32} (hA : AI T) (h6 : ∀ S, CI S T → F6 S = some (S, some (.int v)))
    (h7 : ∀ S S1 S2, f7_writeNow S = some (S1, none) → f7_readCodes S1 (-6) = some (S2, none) → ME S2 (ra (T 0)) → MI S2 T → F7 S = some (S2, some (.int v))) : OKc F6 F7 T := by
  refine ⟨v, T, hA, fun S hC => ⟨S, h6 S hC, hC, Cfr.rf⟩, fun S hM => ?_⟩
  obtain ⟨S1, e1, g1, g2, g3, g4⟩ := now_ok hA.1 hM
  obtain ⟨S2, e2, k1, k2, k3⟩ := read_now hA g3 g2
  exact ⟨S2, h7 S S1 S2 e1 e2 k1 k2, k2, (FM_Mfr g4).tr (FR_Mfr k3)⟩
theorem read_ok {T : wS} (hA : AI T) (x : Int32) : OKc (fun S => f6_read S x) (fun S => f7_read S x) T := by
  obtain ⟨o1, o2, o3⟩ := AV_ra hA.1
  by_cases c : 0 ≤ x ∧ x < nI ((ra (T 0)) 3 0)
  · obtain ⟨i, hi, rfl⟩ := arg_lt (by omega) (Int32.not_lt.mpr c.1) c.2
    refine okr (v := nI ((ra (T 0)) 4 i)) hA (fun S hC => ?_) (fun S S1 S2 e1 e2 hME hM2 => ?_)
    · show f6_read S (nI i) = _
      have hCR : CR S 0 (ra (T 0)) := hC.2.2.2.2.2.2.2.2.2.2.1
      have h1 : nI i < 39621 := nI_lt (a := i) (b := 39621) (by omega) (by decide)
      unfold f6_read
      rw [if_neg (Int32.not_lt.mpr c.1), hCR.1, if_neg (Int32.not_le.mpr c.2), if_pos h1, xat_ok (by omega) (by decide), hCR.2.2.2.2.2.2 i hi]
    · show f7_read S (nI i) = _
      unfold f7_read
      rw [e1, xbV_eq, e2, xbV_eq, hME.2.1.1, in_lt _ _ (by omega), xbI_eq, if_pos c, if_neg (by decide), xat_ok (by omega) (by decide), hME.2.1.2.2 i hi]
  · refine okr (v := -1) hA (fun S hC => ?_) (fun S S1 S2 e1 e2 hME hM2 => ?_)
    · show f6_read S x = _
      have hCR : CR S 0 (ra (T 0)) := hC.2.2.2.2.2.2.2.2.2.2.1
      unfold f6_read f6_read_J21
      by_cases h0 : x < 0
      · rw [if_pos h0]
      · have h1 : nI ((ra (T 0)) 3 0) ≤ x := Int32.not_lt.mp (fun q => c ⟨Int32.not_lt.mp h0, q⟩)
        rw [if_neg h0, hCR.1, if_pos h1]
    · show f7_read S x = _
      unfold f7_read
      rw [e1, xbV_eq, e2, xbV_eq, hME.2.1.1, in_lt _ _ (by omega), xbI_eq, if_neg c, if_pos rfl]
theorem reading_ok {T : wS} (hA : AI T) (x : Int32) : OKc (fun S => f6_reading S x) (fun S => f7_reading S x) T := by
  obtain ⟨o1, o2, o3⟩ := AV_ra hA.1
  have hn := hA.1.2.2.2.1
  rcases arg_sw x 5 (by decide) with hx | ⟨j, hj, rfl⟩
  · refine ⟨-2, T, hA, fun S hC => ⟨S, ?_, hC, Cfr.rf⟩, fun S hM => ⟨S, ?_, hM, Mfr.rf⟩⟩
    · show f6_reading S x = _
      unfold f6_reading
      exact if_pos hx
    · show f7_reading S x = _
      have n1 : ¬ ((0 : Int32) ≤ x ∧ x ≤ 5) := by
        intro q
        rw [Int32.le_iff_toInt_le, Int32.le_iff_toInt_le] at q
        have e0 : (0 : Int32).toInt = 0 := rfl
        have e5 : (5 : Int32).toInt = 5 := rfl
        omega
      unfold f7_reading
      rw [f7_in_ok, xbI_eq, if_neg n1, if_pos rfl]
  · have h7 : ∀ S S1 S2, f7_writeNow S = some (S1, none) → f7_readCodes S1 (-6) = some (S2, none) → f7_reading S (nI j) = (if (nI j).toInt < 0 ∨ 4 < (nI j).toInt then (xbI (f7_alike S2) fun S5 r6 => if r6 = (S5 7 0 24) then xat (3 : Int32) 560 fun j7 => (if (S5 7 0 24) = (S5 33 0 j7) then some (S5, some (Value.int (-6 : Int32))) else f7_reading_J110 S5) else f7_reading_J110 S5) else match ((nI j).toInt - 0).toNat with
        | 0 => some (S2, some (Value.int (S2 7 0 24)))
        | 1 => some (S2, some (Value.int (S2 7 0 25)))
        | 2 => some (S2, some (Value.int (S2 7 0 26)))
        | 3 => some (S2, some (Value.int (S2 7 0 11)))
        | 4 => some (S2, some (Value.int (S2 7 0 27)))
        | _ => none : Option xR) := by
      intro S S1 S2 e1 e2
      have n1 : (0 : Int32) ≤ nI j ∧ nI j ≤ 5 := ⟨nI_le (a := 0) (by omega) (by omega), nI_le (b := 5) (by omega) (by decide)⟩
      unfold f7_reading
      rw [f7_in_ok, xbI_eq, if_pos n1, if_neg (by decide), e1, xbV_eq, e2, xbV_eq]
      rfl
    have hCE : ∀ S, CI S T → CE S 0 (ra (T 0)) := fun S hC => hC.2.2.2.2.2.2.2.2.2.2
    have h5 : j = 0 ∨ j = 1 ∨ j = 2 ∨ j = 3 ∨ j = 4 ∨ j = 5 := by omega
    rcases h5 with rfl | rfl | rfl | rfl | rfl | rfl
    · exact okr (v := nI ((ra (T 0)) 3 0)) hA (fun S hC => by rw [← (hCE S hC).1.1]; rfl) (fun S S1 S2 e1 e2 hME hM2 => by
        show f7_reading S (nI 0) = _
        rw [h7 S S1 S2 e1 e2, ← hME.2.1.1]; rfl)
    · exact okr (v := if (ra (T 0)) 9 0 = 0 then -6 else nI ((ra (T 0)) 10 0)) hA (fun S hC => by rw [← (hCE S hC).2.1]; rfl) (fun S S1 S2 e1 e2 hME hM2 => by
        show f7_reading S (nI 1) = _
        rw [h7 S S1 S2 e1 e2, ← hME.2.2.1]; rfl)
    · exact okr (v := nI ((ra (T 0)) 9 0)) hA (fun S hC => by rw [← (hCE S hC).2.2]; rfl) (fun S S1 S2 e1 e2 hME hM2 => by
        show f7_reading S (nI 2) = _
        rw [h7 S S1 S2 e1 e2, ← hME.2.2.2]; rfl)
    · exact okr (v := nI ((ra (T 0)) 0 0)) hA (fun S hC => by rw [← (hCE S hC).1.2.1]; rfl) (fun S S1 S2 e1 e2 hME hM2 => by
        show f7_reading S (nI 3) = _
        rw [h7 S S1 S2 e1 e2, ← hME.1]; rfl)
    · exact okr (v := nI ((ra (T 0)) 5 0)) hA (fun S hC => by rw [← (hCE S hC).1.2.2.1]; rfl) (fun S S1 S2 e1 e2 hME hM2 => by
        show f7_reading S (nI 4) = _
        rw [h7 S S1 S2 e1 e2, ← hME.2.1.2.1]; rfl)
    · refine okr (v := if alk ((ra (T 0)) 4) (mm (T 0)) (min ((ra (T 0)) 3 0) (T 0 3)) 0 = (ra (T 0)) 3 0 ∧ (ra (T 0)) 3 0 = T 0 3 then -6 else nI (alk ((ra (T 0)) 4) (mm (T 0)) (min ((ra (T 0)) 3 0) (T 0 3)) 0)) hA (fun S hC => ?_) (fun S S1 S2 e1 e2 hME hM2 => ?_)
      · show xbI (f3_firstDifference S 0 0 (S 4 0 3)) _ = _
        have hCR := (hCE S hC).1
        rw [hC.1.2.1, f3_first_ok hCR.1 (fun i hi => ⟨hCR.2.2.2.2.2.2 i hi, o2 i hi⟩) o1 (h := mm (T 0)) (fun i hi => ⟨hC.1.2.2.1 i hi, hA.1.2.2.2.2.1 i hi⟩) hn, xbI_eq]
      · show f7_reading S (nI 5) = _
        have hal := f7_alike_ok (S := S2) (g := (ra (T 0)) 3 0) (n := T 0 3) (f := (ra (T 0)) 4) (h := mm (T 0)) hME.2.1.1 (fun i hi => ⟨hME.2.1.2.2 i hi, o2 i hi⟩) (by omega) (MV0 hM2.1 (by omega) (by omega)) (fun i hi => ⟨MV0 hM2.1 (by omega) (by omega), hA.1.2.2.2.2.1 i hi⟩) hn
        have hle := (alk_le ((ra (T 0)) 4) (mm (T 0)) (min ((ra (T 0)) 3 0) (T 0 3)) 0).2
        have hJ : f7_reading_J110 S2 = some (S2, some (Value.int (nI (alk ((ra (T 0)) 4) (mm (T 0)) (min ((ra (T 0)) 3 0) (T 0 3)) 0)))) := by
          unfold f7_reading_J110
          rw [hal, xbI_eq]
        rw [h7 S S1 S2 e1 e2]
        show (xbI (f7_alike S2) fun S5 r6 => if r6 = (S5 7 0 24) then xat (3 : Int32) 560 fun j7 => (if (S5 7 0 24) = (S5 33 0 j7) then some (S5, some (Value.int (-6 : Int32))) else f7_reading_J110 S5) else f7_reading_J110 S5) = _
        rw [hal, xbI_eq, hME.2.1.1]
        by_cases c1 : alk ((ra (T 0)) 4) (mm (T 0)) (min ((ra (T 0)) 3 0) (T 0 3)) 0 = (ra (T 0)) 3 0
        · rw [if_pos (by rw [c1]), xat_lit (v := 3) 3 rfl (by decide) (by decide), MV0 hM2.1 (i := 3) (by omega) (by omega)]
          by_cases c2 : (ra (T 0)) 3 0 = T 0 3
          · rw [if_pos (by rw [c2]), if_pos ⟨c1, c2⟩]
          · rw [if_neg (fun q => c2 (nI_inj (by omega) (by omega) q)), hJ, if_neg (fun q => c2 q.2)]
        · rw [if_neg (fun q => c1 (nI_inj (by omega) (by omega) q)), hJ, if_neg (fun q => c1 q.1)]
