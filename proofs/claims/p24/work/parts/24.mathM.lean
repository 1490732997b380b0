/-! all of reading, in the class -/
theorem rfa_o (r : wS) (p y : Nat) {f : Nat} (h9 : ¬ f = 9) (h10 : ¬ f = 10) : (rfa r p y) f = r f := by simp [rfa, wu_o, h9, h10]
theorem rfa_9 (r : wS) (p y : Nat) : (rfa r p y) 9 0 = y := by simp [rfa, wu_s]
theorem rfa_10 (r : wS) (p y : Nat) : (rfa r p y) 10 0 = p := by simp [rfa, wu_o, wu_s]
theorem CR_rfa {S : xSt} {o : Nat} {r : wS} (p y : Nat) (h : CR S o r) : CR S o (rfa r p y) := by
  unfold CR
  rw [rfa_o _ _ _ (f := 0) (by decide) (by decide), rfa_o _ _ _ (f := 1) (by decide) (by decide), rfa_o _ _ _ (f := 2) (by decide) (by decide), rfa_o _ _ _ (f := 3) (by decide) (by decide), rfa_o _ _ _ (f := 4) (by decide) (by decide), rfa_o _ _ _ (f := 5) (by decide) (by decide), rfa_o _ _ _ (f := 6) (by decide) (by decide), rfa_o _ _ _ (f := 7) (by decide) (by decide)]
  exact h
def CE (S : xSt) (o : Nat) (r : wS) : Prop := CR S o r ∧ S 3 o 4 = (if r 9 0 = 0 then -6 else nI (r 10 0)) ∧ S 3 o 5 = nI (r 9 0)
def SO (S : xSt) (o1 : Nat) (c : Nat → Nat) (n : Nat) : Prop := ∀ j, j < n → S 32 o1 j = nI (c j) ∧ c j < 512
theorem SO_fr {S S' : xSt} {o o1 : Nat} {c : Nat → Nat} {n : Nat} (h : SO S o1 c n) (hF : Fr (PR o) S S') : SO S' o1 c n := by
  intro j hj
  rw [hF 32 o1 (by simp [PR])]
  exact h j hj
theorem f3_note_ok {S : xSt} {o : Nat} {r : wS} (hC : CR S o r) {p y : Nat} (hy : 0 < y) : ∃ S', f3_noteFault S o (nI p) (nI y) = some (S', none) ∧ CE S' o (rfa r p y) ∧ Fr (PR o) S S' := by
  refine ⟨xup (xup S 3 o 4 (nI p)) 3 o 5 (nI y), ?_, ⟨CR_rfa p y ?_, ?_, ?_⟩, (Fr.rf.up (by simp [PR])).up (by simp [PR])⟩
  · unfold f3_noteFault
    rw [xlet_eq, xlet_eq]
  · obtain ⟨c1, c2, c3, c4, c5, c6, c7⟩ := hC
    refine ⟨?_, ?_, ?_, ?_, ?_, ?_, ?_⟩
    · simp (disch := decide) only [xup_s, if_neg]; exact c1
    · simp (disch := decide) only [xup_s, if_neg]; exact c2
    · simp (disch := decide) only [xup_s, if_neg]; exact c3
    · simp (disch := decide) only [xup_o]; exact c4
    · simp (disch := decide) only [xup_s, if_neg]; exact c5
    · simp (disch := decide) only [xup_s, if_neg]; exact c6
    · simp (disch := decide) only [xup_o]; exact c7
  · rw [rfa_9, rfa_10, if_neg (by omega)]
    simp (disch := decide) only [xup_s, if_neg, if_true]
  · rw [rfa_9, xup_s, if_pos rfl]
theorem f3_drop_ok {S : xSt} {o full : Nat} {r : wS} (hC : CR S o r) (hQ : CQ S o full) : ∃ S', f3_dropPhrases S o = some (S', none) ∧ CR S' o (rdr r) ∧ CQ S' o full ∧ Fr (PR o) S S' := by
  have e0 : (rdr r) 0 0 = 10 := by simp [rdr, wu_o, wu_s]
  have e7 : (rdr r) 7 0 = 0 := by simp [rdr, wu_s]
  have eo : ∀ f, ¬ f = 0 → ¬ f = 7 → (rdr r) f = r f := fun f a b => by simp [rdr, wu_o, a, b]
  obtain ⟨c1, c2, c3, c4, c5, c6, c7⟩ := hC
  refine ⟨xup (xup S 3 o 2 10) 3 o 10 0, ?_, ⟨?_, ?_, ?_, ?_, ?_, ?_, ?_⟩, ⟨?_, ?_, ?_⟩, (Fr.rf.up (by simp [PR])).up (by simp [PR])⟩
  · unfold f3_dropPhrases
    rw [xlet_eq, xlet_eq]
  · simp (disch := decide) only [xup_s, if_neg]; rw [eo 3 (by decide) (by decide)]; exact c1
  · simp (disch := decide) only [xup_s, if_neg, if_true]; rw [e0]; rfl
  · simp (disch := decide) only [xup_s, if_neg]; rw [eo 5 (by decide) (by decide)]; exact c3
  · intro k h1 h2; omega
  · intro h; omega
  · rw [xup_s, if_pos rfl, e7]; rfl
  · simp (disch := decide) only [xup_o]; rw [eo 3 (by decide) (by decide), eo 4 (by decide) (by decide)]; exact c7
  · simp (disch := decide) only [xup_s, if_neg]; exact hQ.1
  · simp (disch := decide) only [xup_s, if_neg]; exact hQ.2.1
  · simp (disch := decide) only [xup_s, if_neg]; exact hQ.2.2
theorem f3_all_loop {o o1 full n : Nat} {c : Nat → Nat} (hf : 10 ≤ full ∧ full ≤ 512) (hn : n ≤ 281) : ∀ (d f : Nat) (S : xSt) (r : wS) (k : Nat), n + 1 ≤ k + d → k ≤ n → d < f → CR S o r → CQ S o full → RI r full k → SO S o1 c n →
    ∃ S', f3_readAll_L8 o o1 f S (nI n) (nI k) = some (S', none) ∧ CE S' o (rda c n full d r k) ∧ Fr (PR o) S S'
  | d, 0, _, _, _, _, _, h, _, _, _, _ => absurd h (Nat.not_lt_zero d)
  | 0, f + 1, S, r, k, h1, h2, h3, hC, hQ, hI, hS => by omega
  | d + 1, f + 1, S, r, k, h1, h2, h3, hC, hQ, hI, hS => by
    show ∃ S', b3_readAll_L8 o o1 (f3_readAll_L8 o o1 f) S (nI n) (nI k) = _ ∧ _
    unfold b3_readAll_L8
    rw [rda]
    by_cases hk : n ≤ k
    · rw [if_pos (nI_le hk (by omega)), if_pos hk]
      obtain ⟨S1, e1, h1, h2⟩ := f3_note_ok (p := n) (y := 2) hC (by decide)
      have e1 : f3_noteFault S o (nI n) 2 = some (S1, none) := e1
      refine ⟨S1, ?_, h1, h2⟩
      unfold f3_readAll_J91
      rw [e1]
      rfl
    · obtain ⟨s1, s2⟩ := hS k (by omega)
      have e9 : (nI (c k) = 9) ↔ c k = 9 := ⟨fun h => nI_inj (b := 9) (by omega) (by decide) h, fun h => by rw [h]; rfl⟩
      have e8 : (nI (c k) = 8) ↔ c k = 8 := ⟨fun h => nI_inj (b := 8) (by omega) (by decide) h, fun h => by rw [h]; rfl⟩
      rw [if_neg (nI_ge (by omega) (by omega)), if_neg hk, xat_ok (by omega) (by decide), s1]
      by_cases c9 : c k = 9
      · rw [if_pos (e9.mpr c9), if_pos c9]
        unfold f3_readAll_J27
        rw [nI_1]
        by_cases hk1 : k + 1 < n
        · rw [if_neg (nI_ge hk1 (by omega)), if_pos hk1]
          obtain ⟨S1, e1, h1, h2⟩ := f3_note_ok (p := k + 1) (y := 3) hC (by decide)
          have e1 : f3_noteFault S o (nI (k + 1)) 3 = some (S1, none) := e1
          rw [e1]
          exact ⟨S1, rfl, h1, h2⟩
        · rw [if_pos (nI_le (by omega) (by omega)), if_neg hk1]
          have h90 : r 9 0 = 0 := hI.2.2.2.2.2.2.1
          exact ⟨S, rfl, ⟨hC, by rw [if_pos h90]; exact hQ.1, by rw [h90]; exact hQ.2.1⟩, Fr.rf⟩
      · rw [if_neg (fun q => c9 (e9.mp q)), if_neg c9]
        by_cases c8 : c k = 8
        · rw [if_pos (e8.mpr c8), if_pos c8]
          obtain ⟨S1, e1, g1, g2, g3⟩ := f3_drop_ok hC hQ
          obtain ⟨S2, e2, k1, k2⟩ := f3_all_loop hf hn d f S1 (rdr r) (k + 1) (by omega) (by omega) (by omega) g1 g2 (rdr_RI hI hf.1) (SO_fr hS g3)
          rw [e1]
          simp only [xbV]
          unfold f3_readAll_J85
          rw [nI_1]
          exact ⟨S2, e2, k1, g3.tr k2⟩
        · rw [if_neg (fun q => c8 (e8.mp q)), if_neg c8]
          have hsq := hI.2.2.1
          rw [f3_canStand_ok (r := r) (full := full) hC.2.2.2.2.2.1 hQ.2.2 hC.2.1 hf.2 hI.1.2 (by omega) (by omega)]
          simp only [xbI]
          by_cases hs : rst r (c k) full = true
          · rw [if_pos hs, if_neg (by decide), if_pos hs]
            obtain ⟨S1, e1, g1, g2, g3⟩ := f3_readEntry_ok hC hQ hI hf.2 (by omega) c8 c9 hs
            obtain ⟨S2, e2, k1, k2⟩ := f3_all_loop hf hn d f S1 (ren r (c k) full) (k + 1) (by omega) (by omega) (by omega) g1 g2 (ren_RI hI c8 c9 hs).1 (SO_fr hS g3)
            rw [e1]
            simp only [xbV]
            unfold f3_readAll_J85
            rw [nI_1]
            exact ⟨S2, e2, k1, g3.tr k2⟩
          · rw [if_neg hs, if_pos rfl, if_neg hs]
            obtain ⟨S1, e1, h1, h2⟩ := f3_note_ok (p := k) (y := 1) hC (by decide)
            have e1 : f3_noteFault S o (nI k) 1 = some (S1, none) := e1
            unfold f3_readAll_J77
            rw [e1]
            exact ⟨S1, rfl, h1, h2⟩
theorem f3_readAll_ok {S : xSt} {o o1 n wd : Nat} {c : Nat → Nat} (h4 : 4 ≤ wd) (h9 : wd ≤ 9) (hn : n ≤ 281) (hS : SO S o1 c n) :
    ∃ S', f3_readAll S o o1 (nI n) (nI wd) = some (S', none) ∧ CE S' o (rfin c n (2 ^ wd)) ∧ Fr (PR o) S S' := by
  have hfl := pow_in h4 h9
  have hb : ∃ S1, f3_begin S o (nI wd) = some (S1, none) ∧ CR S1 o r0 ∧ CQ S1 o (2 ^ wd) ∧ Fr (PR o) S S1 := by
    refine ⟨xup (xup (xup (xup (xup (xup (xup S 3 o 8 (nI (2 ^ wd))) 3 o 1 0) 3 o 3 0) 3 o 4 (-6)) 3 o 5 0) 3 o 2 10) 3 o 10 0, ?_, ⟨?_, ?_, ?_, ?_, ?_, ?_, ?_⟩, ⟨?_, ?_, ?_⟩, ?_⟩
    · unfold f3_begin f3_dropPhrases
      rw [shl_pow h9]
      simp only [xlet_eq, xbV]
    · simp (disch := decide) only [xup_s, if_neg, if_true]; rfl
    · simp (disch := decide) only [xup_s, if_neg, if_true]; rfl
    · simp (disch := decide) only [xup_s, if_neg, if_true]; rfl
    · intro k h1 h2; simp [r0] at h2; omega
    · intro h; simp [r0] at h
    · rw [xup_s, if_pos rfl]; rfl
    · intro i hi; simp [r0] at hi
    · simp (disch := decide) only [xup_s, if_neg, if_true]
    · simp (disch := decide) only [xup_s, if_neg, if_true]
    · simp (disch := decide) only [xup_s, if_neg, if_true]
    · exact ((((((Fr.rf.up (by simp [PR])).up (by simp [PR])).up (by simp [PR])).up (by simp [PR])).up (by simp [PR])).up (by simp [PR])).up (by simp [PR])
  obtain ⟨S1, e1, g1, g2, g3⟩ := hb
  obtain ⟨S2, e2, k1, k2⟩ := f3_all_loop (c := c) ⟨by omega, hfl.2⟩ hn (n + 1) xFU S1 r0 0 (by omega) (Nat.zero_le _) (by show n + 1 < 1000000; omega) g1 g2 (r0_RI (by omega)) (SO_fr hS g3)
  refine ⟨S2, ?_, k1, g3.tr k2⟩
  unfold f3_readAll
  rw [e1]
  simp only [xbV]
  rw [show nI 0 = (0 : Int32) from rfl] at e2
  exact e2
