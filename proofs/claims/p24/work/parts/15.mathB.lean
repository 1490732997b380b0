/-! the writer of the class -/
def bts (h7 : Nat → Nat) : Nat → Nat
  | 0 => 0
  | c + 1 => bts h7 c + wid (h7 c)
def clc (h5 : Nat → Nat) : Nat → Nat
  | 0 => 0
  | c + 1 => clc h5 c + (if h5 c = 8 then 1 else 0)
def plv (x p : Nat) : Int32 := if x = 8 ∨ x = 9 then -6 else nI p
def PW (o t o' : Nat) : Bool := decide (o' = o) && decide (t ∈ [0, 5, 10, 11, 12, 13, 25, 26, 27, 28, 29])
/-- the book of the class -/
def CB (S : xSt) (o : Nat) (w : wS) : Prop := S 0 o 4 = nI (w 0 0) ∧
  (∀ k, k < 10 → S 10 o k = -6 ∧ S 11 o k = (if k < 8 then nI k else -6) ∧ S 12 o k = (if k < 8 then 1 else 0)) ∧
  (∀ k, 10 ≤ k → k < w 0 0 → S 10 o k = nI (w 1 k) ∧ S 11 o k = nI (w 2 k) ∧ S 12 o k = nI (w 3 k)) ∧
  (∀ x s, x < w 0 0 → s < 8 → S 13 o (x * 8 + s) = nI (chl w x s))
/-- the codes of the class -/
def CC (S : xSt) (o : Nat) (w : wS) (cl : Nat) : Prop := S 5 o 6 = nI (w 4 0) ∧
  (∀ i, i < w 4 0 → S 25 o i = nI (w 5 i) ∧ S 26 o i = nI (wid (w 7 i)) ∧ S 27 o i = plv (w 5 i) (w 8 i) ∧ S 28 o i = nI (w 6 i) ∧ S 29 o i = nI (w 7 i)) ∧
  S 5 o 7 = nI (bts (w 7) (w 4 0)) ∧ S 5 o 8 = nI cl ∧ S 5 o 9 = nI (w 9 0) ∧ (10 < w 0 0 → S 5 o 11 = nI (w 10 0))
/-- books that can come -/
def WB (w : wS) : Prop := 10 ≤ w 0 0 ∧ w 0 0 ≤ 512 ∧ ∀ k, 10 ≤ k → k < w 0 0 → w 1 k < k ∧ ¬ (w 1 k = 8 ∨ w 1 k = 9) ∧ w 2 k < 8 ∧ w 3 k = szf w (w 1 k) + 1
theorem bts_cong {f g : Nat → Nat} : ∀ {c : Nat}, (∀ i, i < c → f i = g i) → bts f c = bts g c
  | 0, _ => rfl
  | c + 1, h => by rw [bts, bts, bts_cong (fun i hi => h i (by omega)), h c (by omega)]
theorem clc_cong {f g : Nat → Nat} : ∀ {c : Nat}, (∀ i, i < c → f i = g i) → clc f c = clc g c
  | 0, _ => rfl
  | c + 1, h => by rw [clc, clc, clc_cong (fun i hi => h i (by omega)), h c (by omega)]
theorem wcd_0 (w : wS) (x p k : Nat) : (wcd w x p k) 0 = w 0 := by simp [wcd, wu_o]
theorem wcd_1 (w : wS) (x p k : Nat) : (wcd w x p k) 1 = w 1 := by simp [wcd, wu_o]
theorem wcd_2 (w : wS) (x p k : Nat) : (wcd w x p k) 2 = w 2 := by simp [wcd, wu_o]
theorem wcd_3 (w : wS) (x p k : Nat) : (wcd w x p k) 3 = w 3 := by simp [wcd, wu_o]
theorem wcd_4 (w : wS) (x p k : Nat) : (wcd w x p k) 4 0 = w 4 0 + 1 := by simp [wcd, wu_s]
theorem wcd_5 (w : wS) (x p k i : Nat) : (wcd w x p k) 5 i = if i = w 4 0 then x else w 5 i := by simp [wcd, wu_o, wu_s]
theorem wcd_6 (w : wS) (x p k i : Nat) : (wcd w x p k) 6 i = if i = w 4 0 then k else w 6 i := by simp [wcd, wu_o, wu_s]
theorem wcd_7 (w : wS) (x p k i : Nat) : (wcd w x p k) 7 i = if i = w 4 0 then w 0 0 else w 7 i := by simp [wcd, wu_o, wu_s]
theorem wcd_8 (w : wS) (x p k i : Nat) : (wcd w x p k) 8 i = if i = w 4 0 then p else w 8 i := by simp [wcd, wu_o, wu_s]
theorem wcd_9 (w : wS) (x p k : Nat) : (wcd w x p k) 9 = w 9 := by simp [wcd, wu_o]
theorem wcd_10 (w : wS) (x p k : Nat) : (wcd w x p k) 10 = w 10 := by simp [wcd, wu_o]
theorem wcd_chl (w : wS) (x p k y s : Nat) : chl (wcd w x p k) y s = chl w y s := by unfold chl; rw [wcd_0, wcd_1, wcd_2]
theorem wcd_szf (w : wS) (x p k y : Nat) : szf (wcd w x p k) y = szf w y := by unfold szf; rw [wcd_3]
theorem wcd_WB {w : wS} (h : WB w) (x p k : Nat) : WB (wcd w x p k) := by
  unfold WB
  simp only [wcd_0, wcd_1, wcd_2, wcd_3, wcd_szf]
  exact h
theorem wcd_bts (w : wS) (x p k : Nat) : bts ((wcd w x p k) 7) (w 4 0 + 1) = bts (w 7) (w 4 0) + wid (w 0 0) := by
  rw [bts, wcd_7, if_pos rfl, bts_cong (g := w 7) (fun i hi => by rw [wcd_7, if_neg (by omega)])]
theorem wcd_clc (w : wS) (x p k : Nat) : clc ((wcd w x p k) 5) (w 4 0 + 1) = clc (w 5) (w 4 0) + (if x = 8 then 1 else 0) := by
  rw [clc, wcd_5, if_pos rfl, clc_cong (g := w 5) (fun i hi => by rw [wcd_5, if_neg (by omega)])]
/-- a code is written -/
theorem f5_writeCode_ok {S : xSt} {o : Nat} {w : wS} {cl x p k : Nat} (hB : CB S o w) (hC : CC S o w cl) (hW : WB w) (hc : w 4 0 < 281) :
    ∃ S', f5_writeCode S o (nI x) (plv x p) (nI k) = some (S', none) ∧ CB S' o (wcd w x p k) ∧ CC S' o (wcd w x p k) cl ∧ (∀ i, ¬ i = 6 → ¬ i = 7 → S' 5 o i = S 5 o i) ∧ Fr (PW o) S S' := by
  obtain ⟨b1, b2, b3, b4⟩ := hB
  obtain ⟨c1, c2, c3, c4, c5, c6⟩ := hC
  obtain ⟨w1, w2, w3⟩ := hW
  have hlt : S 5 o 6 < (281 : Int32) := by rw [c1]; exact nI_lt (b := 281) hc (by decide)
  refine ⟨xup (xup (xup (xup (xup (xup (xup S 25 o (w 4 0) (nI x)) 26 o (w 4 0) (nI (wid (w 0 0)))) 27 o (w 4 0) (plv x p)) 28 o (w 4 0) (nI k)) 29 o (w 4 0) (nI (w 0 0))) 5 o 7 (nI (bts (w 7) (w 4 0)) + nI (wid (w 0 0)))) 5 o 6 (nI (w 4 0) + 1), ?_, ?_, ?_, ?_, ?_⟩
  · unfold f5_writeCode
    rw [if_pos hlt, b1, f5_bitsOf_ok S (by omega) w2]
    simp (disch := decide) only [xbI, xlet, xup_o, xup_s, xat_ok (n := 281) hc (by decide), b1, c1, c3, if_neg]
  · refine ⟨?_, ?_, ?_, ?_⟩
    · simp (disch := decide) only [xup_o, wcd_0]; exact b1
    · simp (disch := decide) only [xup_o]; exact b2
    · simp (disch := decide) only [xup_o, wcd_0, wcd_1, wcd_2, wcd_3]; exact b3
    · simp (disch := decide) only [xup_o, wcd_0, wcd_chl]; exact b4
  · refine ⟨?_, ?_, ?_, ?_, ?_, ?_⟩
    · rw [xup_s, if_pos rfl, wcd_4, nI_1]
    · intro i hi
      rw [wcd_4] at hi
      simp (disch := decide) only [xup_o, xup_s, wcd_5, wcd_6, wcd_7, wcd_8]
      by_cases h : i = w 4 0
      · simp only [if_pos h]; exact ⟨trivial, trivial, trivial, trivial, trivial⟩
      · simp only [if_neg h]
        exact c2 i (by omega)
    · rw [wcd_4, wcd_bts]
      simp (disch := decide) only [xup_o, xup_s, if_neg, if_true]
      rw [nI_add]
    · simp (disch := decide) only [xup_o, xup_s, if_neg]; exact c4
    · simp (disch := decide) only [xup_o, xup_s, if_neg, wcd_9]; exact c5
    · simp (disch := decide) only [xup_o, xup_s, if_neg, wcd_0, wcd_10]; exact c6
  · intro i h6 h7
    simp (disch := decide) only [xup_o, xup_s, if_neg h6, if_neg h7]
  · exact ((((((Fr.rf.up (by simp [PW])).up (by simp [PW])).up (by simp [PW])).up (by simp [PW])).up (by simp [PW])).up (by simp [PW])).up (by simp [PW])
