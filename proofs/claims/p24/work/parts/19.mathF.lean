/-! all of writing, in the class -/
theorem wr_end (m : Nat → Nat) (n full po wi : Nat) (w : wS) : ∀ (d p : Nat), n ≤ p → wr m n full po wi d w p = w
  | 0, _, _ => rfl
  | d + 1, p, h => by rw [wr, if_neg (by omega)]
theorem f5_loop_ok {o o1 : Nat} {m : Nat → Nat} {n full po wi : Nat} (hfl : 16 ≤ full ∧ full ≤ 512) (hn : n ≤ 240) (hpo : po ≤ 2) (hwi : wi ≤ 32) : ∀ (d f : Nat) (S : xSt) (w : wS) (p st : Nat), n ≤ p + d → p ≤ n → d < f → st ≤ p → CT S o o1 w m n full → WB w → w 0 0 ≤ full → WI w p →
    ∃ S', f5_writeOut_L11 o o1 f S (nI n) (nI po) (nI wi) (nI p) (nI st) = f5_writeOut_J130 o o1 S' ∧ CT S' o o1 (wr m n full po wi d w p) m n full ∧ WB (wr m n full po wi d w p) ∧ (wr m n full po wi d w p) 0 0 ≤ full ∧ WI (wr m n full po wi d w p) n ∧ Fr (PW o) S S'
  | d, 0, _, _, _, _, _, _, h, _, _, _, _, _ => absurd h (Nat.not_lt_zero d)
  | 0, f + 1, S, w, p, st, h1, h2, h3, h4, hT, hW, hef, hI => by
    have : p = n := by omega
    subst this
    refine ⟨S, ?_, hT, hW, hef, hI, Fr.rf⟩
    show b5_writeOut_L11 o o1 (f5_writeOut_L11 o o1 f) S (nI p) (nI po) (nI wi) (nI p) (nI st) = _
    unfold b5_writeOut_L11
    by_cases hst : (240 : Int32) ≤ nI st
    · rw [if_pos hst]
    · rw [if_neg hst, if_pos (nI_le (Nat.le_refl _) (by omega))]
  | d + 1, f + 1, S, w, p, st, h1, h2, h3, h4, hT, hW, hef, hI => by
    show ∃ S', b5_writeOut_L11 o o1 (f5_writeOut_L11 o o1 f) S (nI n) (nI po) (nI wi) (nI p) (nI st) = _ ∧ _
    by_cases hp : p < n
    · obtain ⟨S1, e1, hT1, hF1⟩ := f5_body_ok (f5_writeOut_L11 o o1 f) hT hW hef hfl hI hp hn h4 hpo hwi
      obtain ⟨g1, g2, g3, g4, g5⟩ := wst_ok (po := po) (wi := wi) hW hef hfl hI hp hn (fun j hj => (hT.2.2.2 j hj).2)
      obtain ⟨S2, e2, hT2, hW2, hef2, hI2, hF2⟩ := f5_loop_ok hfl hn hpo hwi d f S1 (wst m n full po wi w p) (wnx m n w p) (st + 1) (by omega) g5 (by omega) (by omega) hT1 g1 g2 g3
      rw [wr, if_pos hp, e1, e2]
      exact ⟨S2, rfl, hT2, hW2, hef2, hI2, hF1.tr hF2⟩
    · have : p = n := by omega
      subst this
      rw [wr, if_neg hp]
      refine ⟨S, ?_, hT, hW, hef, hI, Fr.rf⟩
      unfold b5_writeOut_L11
      by_cases hst : (240 : Int32) ≤ nI st
      · rw [if_pos hst]
      · rw [if_neg hst, if_pos (nI_le (Nat.le_refl _) (by omega))]
theorem w0_WB : WB w0 := ⟨by decide, by decide, fun k h1 h2 => by simp [w0] at h2; omega⟩
theorem w0_WI : WI w0 0 := ⟨⟨0, by decide, by decide⟩, by decide, by decide⟩
/-- what a book has from its making on -/
def BS (S : xSt) (o : Nat) : Prop := ∀ k, k < 10 → S 10 o k = -6 ∧ S 11 o k = (if k < 8 then nI k else -6) ∧ S 12 o k = (if k < 8 then 1 else 0)
theorem shl_pow {k : Nat} (hk : k ≤ 9) : (1 : Int32) <<< (nI k &&& 31) = nI (2 ^ k) := by
  have h : ∀ k, k < 10 → (1 : Int32) <<< (nI k &&& 31) = nI (2 ^ k) := by decide
  exact h k (by omega)
theorem pow_in {k : Nat} (h4 : 4 ≤ k) (h9 : k ≤ 9) : 16 ≤ 2 ^ k ∧ 2 ^ k ≤ 512 := by
  have h : ∀ k, k < 10 → 4 ≤ k → 16 ≤ 2 ^ k ∧ 2 ^ k ≤ 512 := by decide
  exact h k (by omega) h4
theorem f5_begin_ok {S : xSt} {o o1 wd : Nat} {m : Nat → Nat} {n : Nat} (h9 : wd ≤ 9) (hb : BS S o) (hS : SG S o1 m n) : ∃ S', f5_begin S o (nI wd) = some (S', none) ∧ CT S' o o1 w0 m n (2 ^ wd) ∧ Fr (PW o) S S' := by
  obtain ⟨S1, e1, hB1, h1x, hF1⟩ := drop_ok S o
  refine ⟨xup (xup (xup (xup (xup S1 5 o 10 (nI (2 ^ wd))) 5 o 6 0) 5 o 7 0) 5 o 8 0) 5 o 9 0, ?_, ⟨?_, ?_, ?_, ?_⟩, ?_⟩
  · unfold f5_begin
    rw [e1]
    simp only [xbV, xlet, shl_pow h9]
  · refine CB_S5 (hB1 w0 rfl hb) (fun t h => ?_)
    rw [xup_o h, xup_o h, xup_o h, xup_o h, xup_o h]
  · refine ⟨?_, ?_, ?_, ?_, ?_, ?_⟩
    · simp (disch := decide) only [xup_s, if_neg, if_true]; rfl
    · intro i hi
      simp [w0] at hi
    · simp (disch := decide) only [xup_s, if_neg, if_true]; rfl
    · simp (disch := decide) only [xup_s, if_neg, if_true]; rfl
    · simp (disch := decide) only [xup_s, if_neg, if_true]; rfl
    · intro h; simp [w0] at h
  · simp (disch := decide) only [xup_s, if_neg, if_true]
  · intro j hj
    simp (disch := decide) only [xup_o]
    rw [h1x 23 (by decide) (by decide)]
    exact hS j hj
  · exact ((((hF1.up (by simp [PW])).up (by simp [PW])).up (by simp [PW])).up (by simp [PW])).up (by simp [PW])
/-- what the writer holds behind writing -/
def CF (S : xSt) (o : Nat) (w : wS) : Prop := CB S o w ∧ CC S o w (clc (w 5) (w 4 0))
theorem wfin_ok {m : Nat → Nat} {n full po wi : Nat} : wfin m n full po wi = wcd (wr m n full po wi (n + 1) w0 0) 9 0 0 := rfl
theorem wr_ok {m : Nat → Nat} {n full po wi : Nat} (hfl : 16 ≤ full ∧ full ≤ 512) (hn : n ≤ 240) (hm : ∀ j, j < n → m j < 8) : ∀ (d : Nat) (w : wS) (p : Nat), p ≤ n → WB w → w 0 0 ≤ full → WI w p → n ≤ p + d → WB (wr m n full po wi d w p) ∧ (wr m n full po wi d w p) 0 0 ≤ full ∧ WI (wr m n full po wi d w p) n
  | 0, w, p, h1, hW, hef, hI, h2 => by
    have : p = n := by omega
    subst this
    exact ⟨hW, hef, hI⟩
  | d + 1, w, p, h1, hW, hef, hI, h2 => by
    rw [wr]
    by_cases hp : p < n
    · rw [if_pos hp]
      obtain ⟨g1, g2, g3, g4, g5⟩ := wst_ok (po := po) (wi := wi) hW hef hfl hI hp hn hm
      exact wr_ok hfl hn hm d _ _ g5 g1 g2 g3 (by omega)
    · have : p = n := by omega
      subst this
      rw [if_neg hp]
      exact ⟨hW, hef, hI⟩
theorem wfin_in {m : Nat → Nat} {n full po wi : Nat} (hfl : 16 ≤ full ∧ full ≤ 512) (hn : n ≤ 240) (hm : ∀ j, j < n → m j < 8) : WB (wfin m n full po wi) ∧ (wfin m n full po wi) 0 0 ≤ full ∧ 1 ≤ (wfin m n full po wi) 4 0 ∧ (wfin m n full po wi) 4 0 ≤ 281 ∧ (wfin m n full po wi) 9 0 ≤ 240 := by
  obtain ⟨h1, h2, ⟨q, h3, h4⟩, h5, h6⟩ := wr_ok (po := po) (wi := wi) hfl hn hm (n + 1) w0 0 (Nat.zero_le _) w0_WB (by show 10 ≤ full; omega) w0_WI (by omega)
  rw [wfin_ok]
  refine ⟨wcd_WB h1 9 0 0, by rw [wcd_0]; exact h2, by rw [wcd_4]; omega, by rw [wcd_4]; omega, by rw [wcd_9]; exact h6⟩
theorem f5_writeOut_ok {S : xSt} {o o1 wd po wi : Nat} {m : Nat → Nat} {n : Nat} (h4 : 4 ≤ wd) (h9 : wd ≤ 9) (hn : n ≤ 240) (hpo : po ≤ 2) (hwi : wi ≤ 32) (hb : BS S o) (hS : SG S o1 m n) :
    ∃ S', f5_writeOut S o o1 (nI n) (nI wd) (nI po) (nI wi) = some (S', none) ∧ CF S' o (wfin m n (2 ^ wd) po wi) ∧ Fr (PW o) S S' := by
  have hfl := pow_in h4 h9
  obtain ⟨S1, e1, hT1, hF1⟩ := f5_begin_ok (o1 := o1) h9 hb hS
  obtain ⟨S2, e2, hT2, hW2, hef2, ⟨⟨q, hq1, hq2⟩, -, -⟩, hF2⟩ := f5_loop_ok (po := po) (wi := wi) hfl hn hpo hwi (n + 1) xFU S1 w0 0 0 (by omega) (Nat.zero_le _) (by show n + 1 < 1000000; omega) (Nat.le_refl _) hT1 w0_WB (by show 10 ≤ 2 ^ wd; omega) w0_WI
  obtain ⟨S3, e3, hB3, hC3, -, hF3⟩ := f5_writeCode_ok (x := 9) (p := 0) (k := 0) hT2.1 hT2.2.1 hW2 (by omega)
  rw [plv_9] at e3
  have e3 : f5_writeCode S2 o 9 (-6) 0 = some (S3, none) := e3
  refine ⟨S3, ?_, ⟨hB3, ?_⟩, (hF1.tr hF2).tr hF3⟩
  · unfold f5_writeOut
    rw [e1]
    simp only [xbV]
    have e2 : f5_writeOut_L11 o o1 xFU S1 (nI n) (nI po) (nI wi) 0 0 = f5_writeOut_J130 o o1 S2 := e2
    rw [e2]
    unfold f5_writeOut_J130
    rw [e3]
    rfl
  · rw [wfin_ok, wcd_4, wcd_clc, if_neg (by decide)]
    exact hC3
