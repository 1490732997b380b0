/-! the reference reads all codes: the loop -/
def rv (S : xSt) (i1 : Int32) (k : Nat) : Int32 := if 0 ≤ i1 then (if nI k = i1 then S 42 0 k ^^^ 1 else S 42 0 k) else S 42 0 k ^^^ S 33 0 (250 + k)
def VK (S : xSt) (i1 : Int32) (n : Nat) (c : Nat → Nat) : Prop := S 7 0 17 = nI n ∧ ∀ k, k < n → rv S i1 k = nI (c k) ∧ c k < 512
theorem VK_fr {S S' : xSt} {i1 : Int32} {n : Nat} {c : Nat → Nat} (h : VK S i1 n c) (hF : FR S S') : VK S' i1 n c := by
  refine ⟨by rw [hF.2 17 (by decide) (by decide) (by decide) (by decide) (by decide)]; exact h.1, fun k hk => ?_⟩
  have e : rv S' i1 k = rv S i1 k := by unfold rv; rw [hF.1 42 0 (by decide), hF.1 33 0 (by decide)]
  rw [e]; exact h.2 k hk
theorem f7_codes_stop {S : xSt} (h26 : ¬ S 7 0 26 = 0) (f : Nat) (i1 i2 i3 i4 i5 : Int32) : f7_readCodes_L43 (f + 1) S i1 i2 i3 i4 i5 = some (S, none) := by
  show b7_readCodes_L43 (f7_readCodes_L43 f) S i1 i2 i3 i4 i5 = _
  unfold b7_readCodes_L43 f7_readCodes_J319
  by_cases h : S 7 0 17 ≤ i5
  · rw [if_pos h, if_neg h26]
  · rw [if_neg h, if_neg h26, if_neg h26]
theorem f7_codes_go {S : xSt} {n k : Nat} {i1 : Int32} {c : Nat → Nat} (h26 : S 7 0 26 = 0) (hV : VK S i1 n c) (hk : k < n) (hn : n ≤ 281) (f : Nat) (i2 i3 i4 : Int32) : f7_readCodes_L43 (f + 1) S i1 i2 i3 i4 (nI k) = f7_readCodes_J110 (f7_readCodes_L43 f) S i1 i2 i3 i4 (nI k) (nI (c k)) := by
  show b7_readCodes_L43 (f7_readCodes_L43 f) S i1 i2 i3 i4 (nI k) = _
  obtain ⟨h17, hv⟩ := hV
  obtain ⟨v1, v2⟩ := hv k hk
  unfold b7_readCodes_L43
  rw [h17, if_neg (nI_ge hk (by omega)), if_pos h26, ← v1]
  unfold rv
  by_cases h0 : 0 ≤ i1
  · rw [if_pos h0, if_pos h0]
    by_cases h1 : nI k = i1
    · rw [if_pos h1, if_pos h1, xat_ok (by omega) (by decide)]
    · rw [if_neg h1, if_neg h1, xat_ok (by omega) (by decide)]
  · rw [if_neg h0, if_neg h0, xat_ok (by omega) (by decide), xat_at (j := 250 + k) (by rw [← nI_add]; rfl) (by omega) (by decide)]
theorem f7_begin_ok (S : xSt) : ∃ S', f7_beginBook S = some (S', none) ∧ BM S' 10 ∧ S' 7 0 11 = 10 ∧ (∀ i, ¬ i = 11 → S' 7 0 i = S 7 0 i) ∧ (∀ t, ¬ t = 7 → ¬ (38 ≤ t ∧ t ≤ 41) → S' t = S t) ∧ FR S S' := by
  obtain ⟨S1, e1, hb1, h71, ho1, hF1⟩ := f7_begin_loop 10 xFU (xup S 7 0 11 10) 0 (by omega) (by show 10 < 1000000; omega) (fun k hk => absurd hk (Nat.not_lt_zero k))
  have hF2 : FM S S1 := (FM.rf.up7 (Or.inl rfl)).tr hF1
  have hi : ∀ i, ¬ i = 11 → S1 7 0 i = S 7 0 i := fun i h => by rw [h71, xup_s, if_neg h]
  have ht : ∀ t, ¬ t = 7 → ¬ (38 ≤ t ∧ t ≤ 41) → S1 t = S t := fun t h7 ht => by rw [ho1 t ht, xup_o h7]
  refine ⟨S1, ?_, hb1, by rw [h71, xup_s, if_pos rfl], hi, ht, fun t o hp => ?_, fun i a b c d e => hi i a⟩
  · rw [show nI 0 = (0 : Int32) from rfl] at e1
    unfold f7_beginBook
    rw [xlet_eq]
    exact e1
  · by_cases h0 : o = 0
    · rw [ht t (fun q => hp ⟨h0, Or.inl q⟩) (fun q => hp ⟨h0, Or.inr (Or.inl q)⟩)]
    · exact hF2.1 t o (fun q => h0 q.1)
theorem f7_all_loop {i1 : Int32} {full n : Nat} {c : Nat → Nat} (hf : 10 ≤ full ∧ full ≤ 512) (hn : n ≤ 281) : ∀ (d f : Nat) (S : xSt) (r : wS) (k : Nat), n + 1 ≤ k + d → k ≤ n → d + 2 < f → MK S r → ML S r → S 7 0 26 = 0 → S 7 0 25 = -6 → RI r full k → VK S i1 n c →
    ∃ S', f7_readCodes_L43 f S i1 (nI full) (bfr r) 0 (nI k) = some (S', none) ∧ ME S' (rda c n full d r k) ∧ FR S S'
  | d, 0, _, _, _, _, _, h, _, _, _, _, _, _ => absurd h (Nat.not_lt_zero _)
  | 0, f + 1, S, r, k, h1, h2, h3, hK, hL, h26, h25, hI, hV => by omega
  | d + 1, f + 1, S, r, k, h1, h2, h3, hK, hL, h26, h25, hI, hV => by
    have hend : ∀ (p y : Nat), 0 < y → y < 4 → ME (xup (xup S 7 0 25 (nI p)) 7 0 26 (nI y)) (rfa r p y) ∧ FR S (xup (xup S 7 0 25 (nI p)) 7 0 26 (nI y)) ∧ ¬ (xup (xup S 7 0 25 (nI p)) 7 0 26 (nI y)) 7 0 26 = 0 := by
      intro p y hy hy2
      refine ⟨⟨?_, ⟨?_, ?_, ?_⟩, ?_, ?_⟩, (FR.rf.up7 (by omega)).up7 (by omega), ?_⟩
      · rw [xup_s, if_neg (by decide), xup_s, if_neg (by decide), rfa_o _ _ _ (by decide) (by decide)]; exact hK.1
      · rw [xup_s, if_neg (by decide), xup_s, if_neg (by decide), rfa_o _ _ _ (by decide) (by decide)]; exact hL.1
      · rw [xup_s, if_neg (by decide), xup_s, if_neg (by decide), rfa_o _ _ _ (by decide) (by decide)]; exact hL.2.1
      · intro x hx
        rw [rfa_o _ _ _ (by decide) (by decide)] at hx ⊢
        rw [xup_o (by decide), xup_o (by decide)]; exact hL.2.2 x hx
      · rw [rfa_9, if_neg (by omega), rfa_10, xup_s, if_neg (by decide), xup_s, if_pos rfl]
      · rw [rfa_9, xup_s, if_pos rfl]
      · rw [xup_s, if_pos rfl]; exact fun q => absurd (nI_inj (b := 0) (by omega) (by decide) q) (by omega)
    rw [rda]
    by_cases hk : n ≤ k
    · rw [if_pos hk]
      obtain ⟨e1, e2, -⟩ := hend n 2 (by decide) (by decide)
      refine ⟨_, ?_, e1, e2⟩
      show b7_readCodes_L43 (f7_readCodes_L43 f) S i1 (nI full) (bfr r) 0 (nI k) = _
      unfold b7_readCodes_L43 f7_readCodes_J319
      rw [hV.1, if_pos (nI_le hk (by omega)), if_pos h26, if_pos rfl]
      rfl
    · have hck := (hV.2 k (by omega)).2
      have h10 := hI.1
      have h8 : 0 < r 7 0 → r 8 0 < 512 := fun q => by have := (hI.2.2.2.1 q).2.1; omega
      have e9 : (nI (c k) = 9) ↔ c k = 9 := ⟨fun h => nI_inj (b := 9) (by omega) (by decide) h, fun h => by rw [h]; rfl⟩
      have e8 : (nI (c k) = 8) ↔ c k = 8 := ⟨fun h => nI_inj (b := 8) (by omega) (by decide) h, fun h => by rw [h]; rfl⟩
      rw [if_neg hk, f7_codes_go h26 hV (by omega) hn f, f7_J110_ok hK.1 h10.1 h10.2 hf.2 h8 hck]
      unfold f7_readCodes_J172
      rw [if_pos rfl]
      by_cases c9 : c k = 9
      · rw [if_pos (e9.mpr c9), if_pos c9]
        unfold f7_readCodes_J313
        rw [nI_1]
        obtain ⟨f, rfl⟩ : ∃ g, f = g + 2 := ⟨f - 2, by omega⟩
        by_cases hk1 : k + 1 < n
        · rw [if_pos hk1, f7_codes_go h26 hV hk1 hn, f7_J110_ok hK.1 h10.1 h10.2 hf.2 h8 (hV.2 (k + 1) hk1).2]
          obtain ⟨g1, g2, g3⟩ := hend (k + 1) 3 (by decide) (by decide)
          refine ⟨_, ?_, g1, g2⟩
          unfold f7_readCodes_J172
          rw [if_neg (by decide)]
          unfold f7_readCodes_J313
          rw [xlet_eq, xlet_eq]
          exact f7_codes_stop g3 f _ _ _ _ _
        · rw [if_neg hk1]
          have h90 : r 9 0 = 0 := hI.2.2.2.2.2.2.1
          refine ⟨S, ?_, ⟨hK.1, hL, by rw [if_pos h90]; exact h25, by rw [h90]; exact h26⟩, FR.rf⟩
          show b7_readCodes_L43 (f7_readCodes_L43 (f + 1)) S i1 (nI full) (bfr r) 1 (nI (k + 1)) = _
          unfold b7_readCodes_L43 f7_readCodes_J319
          rw [hV.1, if_pos (nI_le (by omega) (by omega)), if_pos h26, if_neg (by decide)]
      · rw [if_neg (fun q => c9 (e9.mp q)), if_neg c9]
        by_cases c8 : c k = 8
        · rw [if_pos (e8.mpr c8), if_pos c8]
          obtain ⟨S1, e1, g1, g2, g3, g4, g5⟩ := f7_begin_ok S
          have r0' : (rdr r) 0 0 = 10 := by simp [rdr, wu_o, wu_s]
          have r7' : (rdr r) 7 0 = 0 := by simp [rdr, wu_s]
          have ro' : ∀ f, ¬ f = 0 → ¬ f = 7 → (rdr r) f = r f := fun f a b => by simp [rdr, wu_o, a, b]
          have hb : bfr (rdr r) = -6 := if_neg (by omega)
          have hK1 : MK S1 (rdr r) := ⟨by rw [g2, r0']; rfl, g1, fun x a b => by omega⟩
          have hL1 : ML S1 (rdr r) := by
            refine ⟨?_, ?_, ?_⟩
            · rw [g3 24 (by decide), ro' 3 (by decide) (by decide)]; exact hL.1
            · rw [g3 27 (by decide), ro' 5 (by decide) (by decide)]; exact hL.2.1
            · intro x hx
              rw [ro' 3 (by decide) (by decide)] at hx
              rw [g4 50 (by decide) (by decide), ro' 4 (by decide) (by decide)]; exact hL.2.2 x hx
          obtain ⟨S2, e2, m1, m2⟩ := f7_all_loop hf hn d f S1 (rdr r) (k + 1) (by omega) (by omega) (by omega) hK1 hL1 ((g3 26 (by decide)).trans h26) ((g3 25 (by decide)).trans h25) (rdr_RI hI hf.1) (VK_fr hV g5)
          rw [hb, ← nI_1] at e2
          refine ⟨S2, ?_, m1, g5.tr m2⟩
          rw [e1]
          exact e2
        · rw [if_neg (fun q => c8 (e8.mp q)), if_neg c8]
          by_cases hs : rst r (c k) full = true
          · rw [if_pos hs]
            obtain ⟨S1, e1, k1, k2, k3, k4, k5⟩ := f7_J233_ok hK hL hI hf.2 (by omega) c8 c9 hs (f7_readCodes_L43 f) i1 0 (nI k)
            obtain ⟨S2, e2, m1, m2⟩ := f7_all_loop hf hn d f S1 (ren r (c k) full) (k + 1) (by omega) (by omega) (by omega) k1 k2 (k3.trans h26) (k4.trans h25) (ren_RI hI c8 c9 hs).1 (VK_fr hV k5)
            rw [nI_1, e2] at e1
            have hst : c k < r 0 0 ∨ (c k = r 0 0 ∧ 0 < r 7 0 ∧ r 0 0 < full) := by
              unfold rst at hs
              simp only [Bool.or_eq_true, Bool.and_eq_true, decide_eq_true_eq] at hs
              exact hs
            refine ⟨S2, ?_, m1, k5.tr m2⟩
            by_cases hin : c k < 8 ∨ (10 ≤ c k ∧ c k < r 0 0)
            · rw [if_pos hin, if_neg (by decide)]; exact e1
            · have hcm : c k = r 0 0 ∧ 0 < r 7 0 ∧ r 0 0 < full := by
                rcases hst with q | q
                · exact absurd (by omega) hin
                · exact q
              rw [if_pos hcm] at e1
              rw [if_neg hin, if_pos rfl, if_pos hcm, if_neg (by decide)]; exact e1
          · rw [if_neg hs]
            have hns : ¬ (c k < r 0 0 ∨ (c k = r 0 0 ∧ 0 < r 7 0 ∧ r 0 0 < full)) := by
              intro q
              apply hs
              unfold rst
              simp only [Bool.or_eq_true, Bool.and_eq_true, decide_eq_true_eq]
              exact q
            have hin : ¬ (c k < 8 ∨ (10 ≤ c k ∧ c k < r 0 0)) := fun q => hns (Or.inl (by omega))
            have hcm : ¬ (c k = r 0 0 ∧ 0 < r 7 0 ∧ r 0 0 < full) := fun q => hns (Or.inr q)
            rw [if_neg hin, if_pos rfl, if_neg hcm, if_pos rfl]
            obtain ⟨g1, g2, g3⟩ := hend k 1 (by decide) (by decide)
            refine ⟨_, ?_, g1, g2⟩
            unfold f7_readCodes_J313
            rw [xlet_eq, xlet_eq]
            obtain ⟨f, rfl⟩ : ∃ g, f = g + 1 := ⟨f - 1, by omega⟩
            exact f7_codes_stop g3 f _ _ _ _ _
theorem f7_readCodes_ok {S : xSt} {i1 : Int32} {n wd : Nat} {c : Nat → Nat} (h4 : 4 ≤ wd) (h9 : wd ≤ 9) (hn : n ≤ 281) (h33 : S 33 0 0 = nI wd) (hV : VK S i1 n c) :
    ∃ S', f7_readCodes S i1 = some (S', none) ∧ ME S' (rfin c n (2 ^ wd)) ∧ FR S S' := by
  have hfl := pow_in h4 h9
  obtain ⟨S1, e1, g1, g2, g3, g4, g5⟩ := f7_begin_ok (xup (xup (xup (xup S 7 0 24 0) 7 0 25 (-6)) 7 0 26 0) 7 0 27 0)
  have hF : FR S S1 := ((((FR.rf.up7 (by omega)).up7 (by omega)).up7 (by omega)).up7 (by omega)).tr g5
  have hK : MK S1 r0 := ⟨by rw [g2]; rfl, g1, fun k h1 h2 => by simp [r0] at h2; omega⟩
  have hL : ML S1 r0 := by
    refine ⟨?_, ?_, fun i hi => by simp [r0] at hi⟩
    · rw [g3 24 (by decide)]; simp (disch := decide) only [xup_s, if_neg, if_true]; rfl
    · rw [g3 27 (by decide)]; simp (disch := decide) only [xup_s, if_neg, if_true]; rfl
  obtain ⟨S2, e2, m1, m2⟩ := f7_all_loop (full := 2 ^ wd) (by omega) hn (n + 1) xFU S1 r0 0 (by omega) (Nat.zero_le _) (by show n + 1 + 2 < 1000000; omega) hK hL (by rw [g3 26 (by decide)]; simp (disch := decide) only [xup_s, if_neg, if_true]) (by rw [g3 25 (by decide)]; simp (disch := decide) only [xup_s, if_neg, if_true]) (r0_RI (by omega)) (VK_fr hV hF)
  refine ⟨S2, ?_, m1, hF.tr m2⟩
  unfold f7_readCodes
  rw [xat_lit (v := 0) 0 rfl (by decide) (by decide), xlet_eq, xlet_eq, xlet_eq, xlet_eq, e1]
  simp only [xbV]
  rw [h33, shl_pow h9]
  rw [show nI 0 = (0 : Int32) from rfl] at e2
  exact e2
