/-! the reference reads all codes -/
def ME (S : xSt) (r : wS) : Prop := S 7 0 11 = nI (r 0 0) ∧ ML S r ∧ S 7 0 25 = (if r 9 0 = 0 then -6 else nI (r 10 0)) ∧ S 7 0 26 = nI (r 9 0)
def bfr (r : wS) : Int32 := if 0 < r 7 0 then nI (r 8 0) else -6
theorem ren_o (r : wS) (c full : Nat) {f : Nat} (a : ¬ f = 3) (b : ¬ f = 4) (d : ¬ f = 6) (e : ¬ f = 7) (g : ¬ f = 8) : (ren r c full) f = (rg1 r c full) f := by
  unfold ren
  by_cases hc : c < 8
  · rw [if_pos hc, rpu_o _ _ a b, rg2_o _ _ _ d e g]
  · rw [if_neg hc, rcp_o _ a b, rg2_o _ _ _ d e g]
theorem ren_6 (r : wS) (c full : Nat) : (ren r c full) 6 0 = r 3 0 := by
  unfold ren
  by_cases hc : c < 8
  · rw [if_pos hc, rpu_o _ _ (by decide) (by decide), rg2_6, rg1_o _ _ _ (by decide) (by decide) (by decide) (by decide) (by decide)]
  · rw [if_neg hc, rcp_o _ (by decide) (by decide), rg2_6, rg1_o _ _ _ (by decide) (by decide) (by decide) (by decide) (by decide)]
theorem ren_7 (r : wS) (c full : Nat) : (ren r c full) 7 0 = if c < 8 then 1 else (rg1 r c full) 2 c := by
  unfold ren
  by_cases hc : c < 8
  · rw [if_pos hc, if_pos hc, rpu_o _ _ (by decide) (by decide), rg2_7]
  · rw [if_neg hc, if_neg hc, rcp_o _ (by decide) (by decide), rg2_7]
theorem ren_8 (r : wS) (c full : Nat) : (ren r c full) 8 0 = c := by
  unfold ren
  by_cases hc : c < 8
  · rw [if_pos hc, rpu_o _ _ (by decide) (by decide), rg2_8]
  · rw [if_neg hc, rcp_o _ (by decide) (by decide), rg2_8]
theorem MK_40 {S : xSt} {r : wS} {full i x : Nat} (hK : MK S r) (hx : x < r 0 0) (h89 : ¬ (x = 8 ∨ x = 9)) : S 40 0 x = nI (chf r x 0) ∧ S 41 0 x = nI (lenf r x) := by
  unfold chf lenf
  by_cases h8 : x < 8
  · rw [(hK.2.1 x (by omega)).2.2.1, (hK.2.1 x (by omega)).2.2.2, if_pos h8, if_pos h8, if_pos h8, if_pos h8]
    exact ⟨rfl, rfl⟩
  · rw [(hK.2.2 x (by omega) hx).2.2.1, (hK.2.2 x (by omega) hx).2.2.2, if_neg h8, if_neg h8]
    exact ⟨rfl, rfl⟩
theorem f7_J110_ok {S : xSt} {r : wS} {full c : Nat} (h11 : S 7 0 11 = nI (r 0 0)) (h10 : 10 ≤ r 0 0) (he : r 0 0 ≤ full) (hfl : full ≤ 512) (h8 : 0 < r 7 0 → r 8 0 < 512) (hc : c < 512) (k : xSt → Int32 → Int32 → Int32 → Int32 → Int32 → Option xR) (i1 i4 i5 : Int32) :
    f7_readCodes_J110 k S i1 (nI full) (bfr r) i4 i5 (nI c) = f7_readCodes_J172 k S i1 (nI full) (bfr r) i4 i5 (nI c) (if c < 8 ∨ (10 ≤ c ∧ c < r 0 0) then 1 else 0) (if c = r 0 0 ∧ 0 < r 7 0 ∧ r 0 0 < full then 1 else 0) := by
  have hb : bfr r < 0 ↔ ¬ 0 < r 7 0 := by
    unfold bfr
    by_cases h : 0 < r 7 0
    · rw [if_pos h]
      exact ⟨fun q => absurd q (nI_nlt (Nat.zero_le _) (by have := h8 h; omega)), fun q => absurd h q⟩
    · rw [if_neg h]; exact ⟨fun _ => h, fun _ => by decide⟩
  have h144 : ∀ b, f7_readCodes_J144 k S i1 (nI full) (bfr r) i4 i5 (nI c) b = f7_readCodes_J172 k S i1 (nI full) (bfr r) i4 i5 (nI c) b (if c = r 0 0 ∧ 0 < r 7 0 ∧ r 0 0 < full then 1 else 0) := by
    intro b
    unfold f7_readCodes_J144 f7_readCodes_J171
    by_cases h1 : c = r 0 0
    · rw [if_pos (by rw [h11, h1])]
      by_cases h2 : 0 < r 7 0
      · rw [if_neg (fun q => hb.mp q h2)]
        by_cases h3 : r 0 0 < full
        · rw [if_neg (by rw [h11]; exact nI_ge h3 (by omega)), if_pos ⟨h1, h2, h3⟩]
        · rw [if_pos (by rw [h11]; exact nI_le (by omega) (by omega)), if_neg (fun q => h3 q.2.2)]
      · rw [if_pos (hb.mpr h2), if_neg (fun q => h2 q.2.1)]
    · rw [if_neg (by rw [h11]; exact fun q => h1 (nI_inj (by omega) (by omega) q)), if_neg (fun q => h1 q.1)]
  have q1 : ((0:Int32) ≤ nI c ∧ nI c ≤ 7) ↔ c < 8 := by
    constructor
    · intro q
      by_cases h : c < 8
      · exact h
      · exact absurd q.2 (nI_ge (a := 7) (by omega) (by omega))
    · exact fun h => ⟨nI_le (a := 0) (by omega) (by omega), nI_le (b := 7) (by omega) (by decide)⟩
  have q2 : ((10:Int32) ≤ nI c ∧ nI c ≤ S 7 0 11 - 1) ↔ 10 ≤ c ∧ c < r 0 0 := by
    have e1 : S 7 0 11 - 1 = nI (r 0 0 - 1) := by rw [h11]; exact pk_sub (b := 1) (by omega)
    rw [e1]
    constructor
    · intro q
      refine ⟨?_, ?_⟩
      · by_cases h : 10 ≤ c
        · exact h
        · exact absurd q.1 (nI_ge (b := 10) (by omega) (by decide))
      · by_cases h : c < r 0 0
        · exact h
        · exact absurd q.2 (nI_ge (a := r 0 0 - 1) (by omega) (by omega))
    · exact fun h => ⟨nI_le (a := 10) (by omega) (by omega), nI_le (by omega) (by omega)⟩
  unfold f7_readCodes_J110 f7_readCodes_J139
  rw [f7_in_ok]
  simp only [xbI]
  by_cases h1 : c < 8
  · rw [if_pos (q1.mpr h1), if_neg (by decide), h144, if_pos (Or.inl h1)]
  · rw [if_neg (fun q => h1 (q1.mp q)), if_pos rfl, f7_in_ok]
    simp only []
    by_cases h2 : 10 ≤ c ∧ c < r 0 0
    · rw [if_pos (q2.mpr h2), if_neg (by decide), h144, if_pos (Or.inr h2)]
    · have h3 : ¬ (c < 8 ∨ (10 ≤ c ∧ c < r 0 0)) := fun q => q.elim h1 h2
      rw [if_neg (fun q => h2 (q2.mp q)), if_pos rfl, h144, if_neg h3]
/-- a code that can stand -/
theorem f7_J233_ok {S : xSt} {r : wS} {full i c : Nat} (hK : MK S r) (hL : ML S r) (hI : RI r full i) (hfl : full ≤ 512) (hi : i < 281) (c8 : ¬ c = 8) (c9 : ¬ c = 9) (hs : rst r c full = true) (k : xSt → Int32 → Int32 → Int32 → Int32 → Int32 → Option xR) (i1 i4 i5 : Int32) :
    ∃ S', f7_readCodes_J233 k S i1 (nI full) (bfr r) i4 i5 (nI c) (if c = r 0 0 ∧ 0 < r 7 0 ∧ r 0 0 < full then 1 else 0) = k S' i1 (nI full) (bfr (ren r c full)) i4 (i5 + 1) ∧ MK S' (ren r c full) ∧ ML S' (ren r c full) ∧ S' 7 0 26 = S 7 0 26 ∧ S' 7 0 25 = S 7 0 25 ∧ FR S S' := by
  obtain ⟨hR, hcnt, hbig, hlo⟩ := ren_RI hI c8 c9 hs
  obtain ⟨⟨i1a, i1b⟩, i2, i3, i4', i5', i6, i7, i8⟩ := hI
  have hl1 : 0 < (ren r c full) 7 0 := by
    rw [ren_7]
    by_cases hc : c < 8
    · rw [if_pos hc]; exact Nat.zero_lt_one
    · rw [if_neg hc]; exact (hbig hc).2.2.1
  have h3' : (ren r c full) 3 0 = r 3 0 + (ren r c full) 7 0 := by rw [hcnt, ren_7]
  obtain ⟨a1, a2, a3, a4, a5⟩ := hR.2.2.2.1 hl1
  rw [ren_8] at a2 a3 a4 a5
  rw [ren_6] at a5
  have hsq : (ren r c full) 3 0 ≤ 48000 := by
    have := hR.2.1
    have h2 : (i + 1) * (i + 1 + 1) ≤ 281 * 282 := Nat.mul_le_mul (by omega) (by omega)
    omega
  have hce : c = r 0 0 → 0 < r 7 0 ∧ r 0 0 < full := by
    intro h
    exact (hbig (by omega)).2.2.2.2.2.2 h
  have hcm : (c = r 0 0 ∧ 0 < r 7 0 ∧ r 0 0 < full) ↔ c = r 0 0 := ⟨fun q => q.1, fun q => ⟨q, hce q⟩⟩
  have hce2 : c ≤ r 0 0 := by
    by_cases hc : c < 8
    · omega
    · have := (hbig hc).2.1
      rw [rg1_0] at this
      by_cases hg : 0 < r 7 0 ∧ r 0 0 < full
      · rw [if_pos hg] at this; omega
      · rw [if_neg hg] at this; omega
  -- the store behind the growing
  have hgrow : ∃ S1, f7_readCodes_J233 k S i1 (nI full) (bfr r) i4 i5 (nI c) (if c = r 0 0 ∧ 0 < r 7 0 ∧ r 0 0 < full then 1 else 0) = f7_readCodes_J271 k S1 i1 (nI full) i4 i5 (nI c) (if c = r 0 0 ∧ 0 < r 7 0 ∧ r 0 0 < full then 1 else 0) ∧ MK S1 (ren r c full) ∧ S1 7 0 24 = S 7 0 24 ∧ S1 7 0 27 = S 7 0 27 ∧ S1 50 = S 50 ∧ S1 7 0 26 = S 7 0 26 ∧ S1 7 0 25 = S 7 0 25 ∧ FR S S1 := by
    unfold f7_readCodes_J233
    by_cases hg : 0 < r 7 0 ∧ r 0 0 < full
    · obtain ⟨b1, b2, b3, b4, b5⟩ := i4' hg.1
      have hb : bfr r = nI (r 8 0) := if_pos hg.1
      have hb0 : ¬ (nI (r 8 0) < 0) := nI_nlt (a := r 8 0) (b := 0) (Nat.zero_le _) (by omega)
      rw [hb, if_neg hb0, hK.1, if_neg (nI_ge hg.2 (by omega))]
      -- the sign that comes first
      have hfirst : (ren r c full) 4 (r 3 0) = chf (ren r c full) c 0 := (a5 0 hl1).symm
      have hv : ∀ v, v = nI ((ren r c full) 4 (r 3 0)) → ∃ S1, f7_readCodes_J268 k S i1 (nI full) i4 i5 (nI c) (if c = r 0 0 ∧ 0 < r 7 0 ∧ r 0 0 < full then 1 else 0) v (nI (r 8 0)) = f7_readCodes_J271 k S1 i1 (nI full) i4 i5 (nI c) (if c = r 0 0 ∧ 0 < r 7 0 ∧ r 0 0 < full then 1 else 0) ∧ MK S1 (ren r c full) ∧ S1 7 0 24 = S 7 0 24 ∧ S1 7 0 27 = S 7 0 27 ∧ S1 50 = S 50 ∧ S1 7 0 26 = S 7 0 26 ∧ S1 7 0 25 = S 7 0 25 ∧ FR S S1 := by
        intro v hv
        obtain ⟨m1, m2⟩ := MK_40 (full := full) (i := i) hK b2 b3
        refine ⟨xup (xup (xup (xup (xup S 38 0 (r 0 0) (nI (r 8 0))) 39 0 (r 0 0) v) 40 0 (r 0 0) (S 40 0 (r 8 0))) 41 0 (r 0 0) (S 41 0 (r 8 0) + 1)) 7 0 11 (nI (r 0 0) + 1), ?_, ?_, ?_, ?_, ?_, ?_, ?_, ?_⟩
        · unfold f7_readCodes_J268
          rw [f7_enter_raw (x := r 8 0) hK.1 (by omega) (by omega)]
          rfl
        · refine ⟨?_, ?_, ?_⟩
          · rw [xup_s, if_pos rfl, ren_o r c full (by decide) (by decide) (by decide) (by decide) (by decide), rg1_0, if_pos hg, nI_1]
          · intro x hx
            have hne : ¬ x = r 0 0 := by omega
            simp (disch := decide) only [xup_o, xup_s, if_neg hne]
            exact hK.2.1 x hx
          · intro x h1 h2
            rw [ren_o r c full (f := 0) (by decide) (by decide) (by decide) (by decide) (by decide), rg1_0, if_pos hg] at h2
            simp (disch := decide) only [xup_o, xup_s]
            rw [ren_o r c full (f := 11) (by decide) (by decide) (by decide) (by decide) (by decide), ren_o r c full (f := 1) (by decide) (by decide) (by decide) (by decide) (by decide), ren_o r c full (f := 2) (by decide) (by decide) (by decide) (by decide) (by decide), rg1_11, rg1_1, rg1_2]
            by_cases hx : x = r 0 0
            · rw [if_pos hx, if_pos hx, if_pos hx, if_pos hx, if_pos ⟨hg, hx⟩, if_pos ⟨hg, hx⟩, if_pos ⟨hg, hx⟩]
              refine ⟨rfl, ?_, ?_, ?_⟩
              · rw [hv, show r 6 0 + (r 7 0 + 1) - 1 = r 3 0 by omega]
              · rw [m1, b5 0 hg.1, hlo _ (by omega)]; rfl
              · rw [m2, b4, nI_1]
            · rw [if_neg hx, if_neg hx, if_neg hx, if_neg hx, if_neg (fun q => hx q.2), if_neg (fun q => hx q.2), if_neg (fun q => hx q.2)]
              obtain ⟨g1, g2, g3, g4⟩ := i5' x h1 (by omega)
              obtain ⟨k1, k2, k3, k4⟩ := hK.2.2 x h1 (by omega)
              exact ⟨k1, by rw [k2, hlo _ (by omega)], by rw [k3, hlo _ (by omega)], k4⟩
        · simp (disch := decide) only [xup_o, xup_s, if_neg]
        · simp (disch := decide) only [xup_o, xup_s, if_neg]
        · simp (disch := decide) only [xup_o]
        · simp (disch := decide) only [xup_o, xup_s, if_neg]
        · simp (disch := decide) only [xup_o, xup_s, if_neg]
        · exact ((((FR.rf.up (by omega)).up (by omega)).up (by omega)).up (by omega)).up7 (by omega)
      by_cases he : c = r 0 0
      · rw [if_pos (hcm.mpr he), if_neg (by decide), xat_ok (by omega) (by decide)]
        have := hv (S 40 0 (r 8 0)) (by
          rw [(MK_40 (full := full) (i := i) hK b2 b3).1, b5 0 hg.1, hfirst]
          unfold chf
          rw [if_neg (by omega), ren_o r c full (f := 1) (by decide) (by decide) (by decide) (by decide) (by decide), rg1_1, if_pos ⟨hg, he⟩, hlo _ (by omega)])
        rw [if_pos (hcm.mpr he)] at this
        exact this
      · rw [if_neg (fun q => he (hcm.mp q)), if_pos rfl, xat_ok (by omega) (by decide)]
        have := hv (S 40 0 c) (by
          rw [(MK_40 (full := full) (i := i) hK (by omega) (by omega)).1, hfirst]
          unfold chf
          by_cases hc : c < 8
          · rw [if_pos hc, if_pos hc]
          · rw [if_neg hc, if_neg hc, ren_o r c full (f := 1) (by decide) (by decide) (by decide) (by decide) (by decide), rg1_1, if_neg (fun q => he q.2)]
            have := i5' c (by omega) (by omega)
            rw [hlo _ (by omega)])
        rw [if_neg (fun q => he (hcm.mp q))] at this
        exact this
    · refine ⟨S, ?_, ?_, rfl, rfl, rfl, rfl, rfl, FR.rf⟩
      · by_cases h7 : 0 < r 7 0
        · have hb : bfr r = nI (r 8 0) := if_pos h7
          obtain ⟨b1, b2, b3, b4, b5⟩ := i4' h7
          have hb0 : ¬ (nI (r 8 0) < 0) := nI_nlt (a := r 8 0) (b := 0) (Nat.zero_le _) (by omega)
          rw [hb, if_neg hb0, hK.1, if_pos (nI_le (by omega) (by omega))]
        · have hb : bfr r = -6 := if_neg h7
          rw [hb, if_pos (by decide)]
      · refine ⟨?_, hK.2.1, ?_⟩
        · rw [ren_o r c full (by decide) (by decide) (by decide) (by decide) (by decide), rg1_0, if_neg hg]; exact hK.1
        · intro x h1 h2
          rw [ren_o r c full (f := 0) (by decide) (by decide) (by decide) (by decide) (by decide), rg1_0, if_neg hg] at h2
          rw [ren_o r c full (f := 11) (by decide) (by decide) (by decide) (by decide) (by decide), ren_o r c full (f := 1) (by decide) (by decide) (by decide) (by decide) (by decide), ren_o r c full (f := 2) (by decide) (by decide) (by decide) (by decide) (by decide), rg1_11, rg1_1, rg1_2, if_neg (fun q => hg q.1), if_neg (fun q => hg q.1), if_neg (fun q => hg q.1)]
          obtain ⟨g1, g2, g3, g4⟩ := i5' x h1 (by omega)
          obtain ⟨k1, k2, k3, k4⟩ := hK.2.2 x h1 (by omega)
          exact ⟨k1, by rw [k2, hlo _ (by omega)], by rw [k3, hlo _ (by omega)], k4⟩
  obtain ⟨S1, e1, hK1, h24, h27, h50, h26, h25, hF1⟩ := hgrow
  rw [e1]
  -- early and saying
  have he5 : (ren r c full) 5 0 = r 5 0 + if c = r 0 0 then 1 else 0 := by
    rw [ren_o r c full (by decide) (by decide) (by decide) (by decide) (by decide), rg1_5]
  have h271 : f7_readCodes_J271 k S1 i1 (nI full) i4 i5 (nI c) (if c = r 0 0 ∧ 0 < r 7 0 ∧ r 0 0 < full then 1 else 0) = f7_readCodes_J286 k S1 i1 (nI full) i4 i5 (nI c) (if c = r 0 0 then 1 else 0) (S1 7 0 27) := by
    unfold f7_readCodes_J271
    by_cases he : c = r 0 0
    · rw [if_pos (hcm.mpr he), if_neg (by decide), if_pos he]
    · rw [if_neg (fun q => he (hcm.mp q)), if_pos rfl, if_neg he]
  rw [h271]
  have hK2 : MK (xup S1 7 0 27 (S1 7 0 27 + if c = r 0 0 then 1 else 0)) (ren r c full) := by
    refine ⟨?_, ?_, ?_⟩
    · rw [xup_s, if_neg (by decide)]; exact hK1.1
    · intro x hx
      simp (disch := decide) only [xup_o]; exact hK1.2.1 x hx
    · intro x h1 h2
      simp (disch := decide) only [xup_o]; exact hK1.2.2 x h1 h2
  have hsp := Sp_of hK2 hR hfl _ c rfl a2 (by omega)
  rw [a4] at hsp
  obtain ⟨S2, e2, q24, q7, qo, qn, qp, hF2⟩ := f7_say_ok (S := xup S1 7 0 27 (S1 7 0 27 + if c = r 0 0 then 1 else 0)) (g := r 3 0) (l := (ren r c full) 7 0) (c := c) (T := chf (ren r c full) c) (by rw [xup_s, if_neg (by decide), h24]; exact hL.1) (by omega) hl1 (by
    rw [(MK_40 (full := full) (i := i) hK2 a2 (by omega)).2, a4]) (by omega) hsp
  refine ⟨S2, ?_, ?_, ⟨?_, ?_, ?_⟩, ?_, ?_, (hF1.tr (FR.rf.up7 (by omega))).tr hF2⟩
  · unfold f7_readCodes_J286
    rw [xlet_eq, e2]
    have hb : bfr (ren r c full) = nI c := by
      unfold bfr
      rw [if_pos hl1, ren_8]
    rw [hb]
    rfl
  · refine ⟨?_, ?_, ?_⟩
    · rw [q7 11 (by decide)]; exact hK2.1
    · intro x hx
      rw [qo 38 (by decide) (by decide), qo 39 (by decide) (by decide), qo 40 (by decide) (by decide), qo 41 (by decide) (by decide)]; exact hK2.2.1 x hx
    · intro x h1 h2
      rw [qo 38 (by decide) (by decide), qo 39 (by decide) (by decide), qo 40 (by decide) (by decide), qo 41 (by decide) (by decide)]; exact hK2.2.2 x h1 h2
  · rw [q24, h3']
  · rw [q7 27 (by decide), xup_s, if_pos rfl, h27, hL.2.1, he5]
    by_cases he : c = r 0 0
    · rw [if_pos he, if_pos he, nI_1]
    · rw [if_neg he, if_neg he]; exact Int32.add_zero _
  · intro x hx
    by_cases h : x < r 3 0
    · rw [qp x h, xup_o (by decide), h50, hL.2.2 x h, hlo x h]
    · obtain ⟨y, rfl⟩ : ∃ y, x = r 3 0 + y := ⟨x - r 3 0, by omega⟩
      rw [qn y (by omega), a5 y (by omega)]
  · rw [q7 26 (by decide), xup_s, if_neg (by decide), h26]
  · rw [q7 25 (by decide), xup_s, if_neg (by decide), h25]
