/-! writing, step by step -/
def WI (w : wS) (p : Nat) : Prop := (∃ q, w 4 0 ≤ p + q ∧ 6 * q + (w 0 0 - 10) ≤ p) ∧ w 10 0 ≤ w 4 0 ∧ w 9 0 ≤ 240
theorem wdr_WB {w : wS} (h : WB w) : WB (wu w 0 0 10) := by
  refine ⟨by rw [wu_s, if_pos rfl]; omega, by rw [wu_s, if_pos rfl]; omega, fun k h1 h2 => ?_⟩
  rw [wu_s, if_pos rfl] at h2
  omega
theorem wst_ok {m : Nat → Nat} {n full po wi p : Nat} {w : wS} (hW : WB w) (hef : w 0 0 ≤ full) (hfl : 16 ≤ full ∧ full ≤ 512) (hI : WI w p) (hp : p < n) (hn : n ≤ 240) (hm : ∀ j, j < n → m j < 8) :
    WB (wst m n full po wi w p) ∧ (wst m n full po wi w p) 0 0 ≤ full ∧ WI (wst m n full po wi w p) (wnx m n w p) ∧ p < wnx m n w p ∧ wnx m n w p ≤ n := by
  obtain ⟨⟨q, hq1, hq2⟩, hs, hl⟩ := hI
  have h10 := hW.1
  have hmp := hm p hp
  obtain ⟨l1, l2, l3, l4, l5, l6⟩ := lm_ok hW m n p n (m p) (p + 1) (by omega) (by omega) (by omega) (by omega) (by omega) (by unfold szf; rw [if_pos hmp]; omega)
  unfold wst wnx
  generalize hr : lm w m n n (m p) (p + 1) = r at *
  obtain ⟨x, q'⟩ := r
  simp only at *
  have hW1 := wcd_WB hW x p (q' - p)
  by_cases c : q' < n
  · rw [if_pos c]
    have hW2 : WB (wgr (wcd w x p (q' - p)) full x (m q')) ∧ (wgr (wcd w x p (q' - p)) full x (m q')) 0 0 ≤ full ∧ WI (wgr (wcd w x p (q' - p)) full x (m q')) q' := by
      unfold wgr
      by_cases he : (wcd w x p (q' - p)) 0 0 < full
      · rw [if_pos he]
        rw [wcd_0] at he
        refine ⟨wad_WB hW1 (by rw [wcd_0]; exact l1) l2 (hm q' c) (by rw [wcd_0]; omega), by rw [wad_0, wcd_0]; omega, ⟨q, ?_, ?_⟩, ?_, ?_⟩
        · rw [wad_4, wcd_4]; omega
        · rw [wad_0, wcd_0]; omega
        · rw [wad_10, wad_4]; omega
        · rw [wad_9, wcd_9, wcd_szf, l5]
          omega
      · rw [if_neg he]
        refine ⟨hW1, by rw [wcd_0]; exact hef, ⟨q, ?_, ?_⟩, ?_, ?_⟩
        · rw [wcd_4]; omega
        · rw [wcd_0]; omega
        · rw [wcd_10, wcd_4]; omega
        · rw [wcd_9]; exact hl
    generalize wgr (wcd w x p (q' - p)) full x (m q') = v at hW2
    obtain ⟨v1, v2, ⟨q2, v3, v4⟩, v5, v6⟩ := hW2
    unfold wdc
    by_cases hc : wcl v full po wi = true
    · rw [if_pos hc]
      have he : v 0 0 = full := by
        rw [wcl_eq, Bool.and_eq_true, decide_eq_true_eq] at hc
        exact hc.1
      refine ⟨wdr_WB (wcd_WB v1 8 0 0), by rw [wu_s, if_pos rfl]; omega, ⟨⟨q2 + 1, ?_, ?_⟩, ?_, ?_⟩, by omega, by omega⟩
      · rw [wu_o (by decide), wcd_4]; omega
      · rw [wu_s, if_pos rfl]; omega
      · rw [wu_o (by decide), wu_o (by decide), wcd_10, wcd_4]; omega
      · rw [wu_o (by decide), wcd_9]; exact v6
    · rw [if_neg hc]
      exact ⟨v1, v2, ⟨⟨q2, v3, v4⟩, v5, v6⟩, by omega, by omega⟩
  · rw [if_neg c]
    refine ⟨hW1, by rw [wcd_0]; exact hef, ⟨⟨q, ?_, ?_⟩, ?_, ?_⟩, by omega, by omega⟩
    · rw [wcd_4]; omega
    · rw [wcd_0]; omega
    · rw [wcd_10, wcd_4]; omega
    · rw [wcd_9]; exact hl
/-- the class between two steps -/
def CT (S : xSt) (o o1 : Nat) (w : wS) (m : Nat → Nat) (n full : Nat) : Prop := CB S o w ∧ CC S o w (clc (w 5) (w 4 0)) ∧ S 5 o 10 = nI full ∧ SG S o1 m n
theorem SG_fr {S S' : xSt} {o o1 : Nat} {m : Nat → Nat} {n : Nat} (h : SG S o1 m n) (hF : Fr (PW o) S S') : SG S' o1 m n := by
  intro j hj
  rw [hF 23 o1 (by simp [PW])]
  exact h j hj
theorem plv_9 (p : Nat) : plv 9 p = -6 := by simp [plv]
theorem plv_8 (p : Nat) : plv 8 p = -6 := by simp [plv]
theorem CB_S5 {S S' : xSt} {o : Nat} {w : wS} (h : CB S o w) (e : ∀ t, ¬ t = 5 → S' t = S t) : CB S' o w := by
  unfold CB
  rw [e 0 (by decide), e 10 (by decide), e 11 (by decide), e 12 (by decide), e 13 (by decide)]
  exact h
theorem f5_body_ok {S : xSt} {o o1 : Nat} {w : wS} {m : Nat → Nat} {n full po wi p st : Nat} (k : xSt → Int32 → Int32 → Int32 → Int32 → Int32 → Option xR) (hT : CT S o o1 w m n full) (hW : WB w) (hef : w 0 0 ≤ full) (hfl : 16 ≤ full ∧ full ≤ 512) (hI : WI w p) (hp : p < n) (hn : n ≤ 240) (hst : st ≤ p) (hpo : po ≤ 2) (hwi : wi ≤ 32) :
    ∃ S', b5_writeOut_L11 o o1 k S (nI n) (nI po) (nI wi) (nI p) (nI st) = k S' (nI n) (nI po) (nI wi) (nI (wnx m n w p)) (nI (st + 1)) ∧ CT S' o o1 (wst m n full po wi w p) m n full ∧ Fr (PW o) S S' := by
  obtain ⟨hB, hC, hf, hS⟩ := hT
  have hm : ∀ j, j < n → m j < 8 := fun j hj => (hS j hj).2
  have hI0 := hI
  obtain ⟨⟨q, hq1, hq2⟩, hs, hl⟩ := hI
  have h10 := hW.1
  have hmp := hm p hp
  have hlong := f0_longestAt_ok hB hW hS hn hp
  obtain ⟨l1, l2, l3, l4, l5, l6⟩ := lm_ok hW m n p n (m p) (p + 1) (by omega) (by omega) (by omega) (by omega) (by omega) (by unfold szf; rw [if_pos hmp]; omega)
  have h240 : ¬ ((240 : Int32) ≤ nI st) := nI_ge (a := st) (b := 240) (by omega) (by decide)
  unfold b5_writeOut_L11
  rw [if_neg h240, if_neg (nI_ge hp (by omega)), hlong]
  unfold wst wnx
  generalize hr : lm w m n n (m p) (p + 1) = r at *
  obtain ⟨x, q'⟩ := r
  simp only at *
  simp only [xbI]
  have h12 : S 12 o x = nI (q' - p) := by rw [CB_12 hB l1, l5]
  have hpl : plv x p = nI p := by unfold plv; rw [if_neg l2]
  obtain ⟨S4, e4, hB4, hC4, h54, hF4⟩ := f5_writeCode_ok (x := x) (p := p) (k := q' - p) hB hC hW (by omega)
  rw [hpl] at e4
  have hW1 := wcd_WB hW x p (q' - p)
  have h412 : S4 12 o x = nI (q' - p) := by rw [CB_12 hB4 (by rw [wcd_0]; exact l1), wcd_szf, l5]
  have hadd : nI p + nI (q' - p) = nI q' := by rw [nI_add]; congr 1; omega
  have hw2 := hW.2.1
  have hx512 : x < 512 := by omega
  have hS4 := SG_fr hS hF4
  have hf4 : S4 5 o 10 = nI full := by rw [h54 10 (by decide) (by decide)]; exact hf
  have hcl : clc ((wcd w x p (q' - p)) 5) ((wcd w x p (q' - p)) 4 0) = clc (w 5) (w 4 0) := by
    rw [wcd_4, wcd_clc, if_neg (fun h => l2 (Or.inl h))]
    rfl
  simp only [xat_ok (i := x) (n := 512) hx512 (by decide), h12, e4, xbV, h412, hadd]
  by_cases c : q' < n
  · have hnq : ¬ nI n ≤ nI q' := nI_ge c (by omega)
    obtain ⟨S7, e7, hB7, hC7, hf7, hF7⟩ := f5_grow_ok (s := m q') hB4 hC4 hW1 (by rw [wcd_0]; exact l1) l2 (hm q' c) hf4 hfl.2 (by rw [wcd_0]; exact hef) (by rw [wcd_chl]; exact l6 c) (by rw [wcd_9]; omega) (by rw [wcd_szf, l5]; omega)
    have hv : WB (wgr (wcd w x p (q' - p)) full x (m q')) ∧ (wgr (wcd w x p (q' - p)) full x (m q')) 0 0 ≤ full ∧ (wgr (wcd w x p (q' - p)) full x (m q')) 4 0 = w 4 0 + 1 ∧ (wgr (wcd w x p (q' - p)) full x (m q')) 5 = (wcd w x p (q' - p)) 5 ∧ (wgr (wcd w x p (q' - p)) full x (m q')) 10 0 ≤ w 4 0 + 1 := by
      unfold wgr
      by_cases he : (wcd w x p (q' - p)) 0 0 < full
      · rw [if_pos he]
        rw [wcd_0] at he
        refine ⟨wad_WB hW1 (by rw [wcd_0]; exact l1) l2 (hm q' c) (by rw [wcd_0]; omega), by rw [wad_0, wcd_0]; omega, by rw [wad_4, wcd_4], wad_5 _ _ _, by rw [wad_10, wcd_4]; omega⟩
      · rw [if_neg he]
        exact ⟨hW1, by rw [wcd_0]; exact hef, wcd_4 _ _ _ _, rfl, by rw [wcd_10]; omega⟩
    simp only [hnq, if_false, xat_ok (i := q') (n := 240) (by omega) (by decide), (hS4 q' c).1, e7, if_pos c]
    generalize wgr (wcd w x p (q' - p)) full x (m q') = v at *
    obtain ⟨v1, v2, v3, v4, v5⟩ := hv
    have hS7 := SG_fr hS4 hF7
    rw [f5_mustClear_ok hB7 hC7 (by omega) hwi hpo hf7 hfl v2 (by omega)]
    simp only [xbI]
    unfold wdc
    by_cases hc : wcl v full po wi = true
    · rw [if_pos hc, if_neg (by decide), if_pos hc]
      obtain ⟨S10, e10, hB10, hC10, h510, hF10⟩ := f5_writeCode_ok (x := 8) (p := 0) (k := 0) hB7 hC7 v1 (by omega)
      rw [plv_8] at e10
      have e10 : f5_writeCode S7 o 8 (-6) 0 = some (S10, none) := e10
      rw [e10]
      simp only [xbV, xlet]
      obtain ⟨S12, e12, hB12, h12x, hF12⟩ := drop_ok (xup S10 5 o 8 (S10 5 o 8 + 1)) o
      rw [e12]
      obtain ⟨g1, g2, g3, g4, g5, g6⟩ := hC10
      refine ⟨S12, ?_, ⟨?_, ?_, ?_, ?_⟩, ?_⟩
      · unfold f5_writeOut_J124
        rw [nI_1]
      · exact hB12 _ (by rw [wu_s, if_pos rfl]) (by
          simp (disch := decide) only [xup_o]
          exact hB10.2.1)
      · have e5 : S12 5 = xup S10 5 o 8 (S10 5 o 8 + 1) 5 := h12x 5 (by decide) (by decide)
        have et : ∀ t, ¬ t = 0 → ¬ t = 13 → ¬ t = 5 → S12 t = S10 t := fun t h0 h13 h5 => by rw [h12x t h0 h13, xup_o h5]
        have hw4 : (wu (wcd v 8 0 0) 0 0 10) 4 0 = v 4 0 + 1 := by rw [wu_o (by decide), wcd_4]
        refine ⟨?_, ?_, ?_, ?_, ?_, ?_⟩
        · rw [e5, xup_s, if_neg (by decide), hw4, ← wcd_4 v 8 0 0]; exact g1
        · intro i hi
          rw [hw4, ← wcd_4 v 8 0 0] at hi
          rw [et 25 (by decide) (by decide) (by decide), et 26 (by decide) (by decide) (by decide), et 27 (by decide) (by decide) (by decide), et 28 (by decide) (by decide) (by decide), et 29 (by decide) (by decide) (by decide)]
          simp only [wu_o (f := 0) (show ¬ 5 = 0 by decide), wu_o (f := 0) (show ¬ 6 = 0 by decide), wu_o (f := 0) (show ¬ 7 = 0 by decide), wu_o (f := 0) (show ¬ 8 = 0 by decide)]
          exact g2 i hi
        · rw [e5, xup_s, if_neg (by decide), hw4, ← wcd_4 v 8 0 0, wu_o (by decide)]; exact g3
        · rw [e5, xup_s, if_pos rfl, hw4, wu_o (by decide), g4, wcd_clc, if_pos rfl, v4, nI_1]
          rw [v3, ← wcd_4 w x p (q' - p), hcl]
        · rw [e5, xup_s, if_neg (by decide), wu_o (by decide)]; exact g5
        · intro h
          rw [wu_s, if_pos rfl] at h
          omega
      · rw [h12x 5 (by decide) (by decide), xup_s, if_neg (by decide), h510 10 (by decide) (by decide)]; exact hf7
      · intro j hj
        rw [h12x 23 (by decide) (by decide), xup_o (by decide)]
        exact SG_fr hS7 hF10 j hj
      · exact ((hF4.tr hF7).tr (hF10.up (by simp [PW]))).tr hF12
    · rw [if_neg hc, if_pos rfl, if_neg hc]
      refine ⟨S7, ?_, ⟨hB7, ?_, hf7, hS7⟩, hF4.tr hF7⟩
      · unfold f5_writeOut_J124
        rw [nI_1]
      · rw [v4, v3, ← wcd_4 w x p (q' - p), hcl]; exact hC7
  · have hnq : nI n ≤ nI q' := nI_le (by omega) (by omega)
    simp only [hnq, if_true, if_neg c]
    refine ⟨S4, ?_, ⟨hB4, ?_, hf4, hS4⟩, hF4⟩
    · unfold f5_writeOut_J124
      rw [nI_1]
    · rw [hcl]; exact hC4
