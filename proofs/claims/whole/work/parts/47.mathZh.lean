/-! spoil -/
theorem lm_cong {w : wS} {m m' : Nat → Nat} {n : Nat} (h : ∀ j, j < n → m j = m' j) : ∀ (d x q : Nat), lm w m n d x q = lm w m' n d x q
  | 0, _, _ => rfl
  | d + 1, x, q => by
    rw [lm, lm]
    by_cases c : q < n
    · rw [h q c, lm_cong h d]
    · rw [if_neg (fun p => c p.1), if_neg (fun p => c p.1)]
theorem wst_cong {w : wS} {m m' : Nat → Nat} {n full po wi p : Nat} (h : ∀ j, j < n → m j = m' j) (hp : p < n) : wst m n full po wi w p = wst m' n full po wi w p := by
  unfold wst
  rw [h p hp, lm_cong h]
  by_cases c : (lm w m' n n (m' p) (p + 1)).2 < n
  · simp only [if_pos c, h _ c]
  · simp only [if_neg c]
theorem wr_cong {m m' : Nat → Nat} {n full po wi : Nat} (h : ∀ j, j < n → m j = m' j) : ∀ (d : Nat) (w : wS) (p : Nat), wr m n full po wi d w p = wr m' n full po wi d w p
  | 0, _, _ => rfl
  | d + 1, w, p => by
    rw [wr, wr]
    by_cases c : p < n
    · rw [if_pos c, if_pos c, wst_cong h c, wr_cong h d]
      unfold wnx
      rw [h p c, lm_cong h]
    · rw [if_neg c, if_neg c]
theorem wfin_cong {m m' : Nat → Nat} {n full po wi : Nat} (h : ∀ j, j < n → m j = m' j) : wfin m n full po wi = wfin m' n full po wi := by
  unfold wfin
  rw [wr_cong h]
def pT (a : Nat → Nat) (k b : Nat) : Nat → Nat := fun i => if i = 250 + k then a i ^^^ b else a i
theorem pT_s (a : Nat → Nat) (k b : Nat) : pT a k b (250 + k) = a (250 + k) ^^^ b := if_pos rfl
theorem pT_o {a : Nat → Nat} {k b i : Nat} (h : ¬ i = 250 + k) : pT a k b i = a i := if_neg h
theorem pT_AV {a : Nat → Nat} {k b : Nat} (hA : AV a) (hk : k < 281) (hb : b < 512) : AV (pT a k b) := by
  obtain ⟨a1, a2, a3, a4, a5, a6, a7⟩ := hA
  unfold AV
  rw [pT_o (i := 0) (by omega), pT_o (i := 1) (by omega), pT_o (i := 2) (by omega), pT_o (i := 3) (by omega)]
  refine ⟨a1, a2, a3, a4, fun j hj => by rw [pT_o (by omega)]; exact a5 j hj, fun j hj => ?_, fun j h1 h2 => by rw [pT_o (by omega)]; exact a7 j h1 h2⟩
  by_cases c : j = k
  · rw [c, pT_s]; exact (nI_xor (a6 k hk) hb).2
  · rw [pT_o (by omega)]; exact a6 j hj
theorem pT_wa {a : Nat → Nat} {k b : Nat} (hA : AV a) : wa (pT a k b) = wa a := by
  have h3 := hA.2.2.2.1
  unfold wa
  rw [pT_o (i := 0) (by omega), pT_o (i := 1) (by omega), pT_o (i := 2) (by omega), pT_o (i := 3) (by omega)]
  exact wfin_cong (fun j hj => pT_o (by omega))
theorem spoil_ok {T : wS} (hA : AI T) (x y : Int32) : OKc (fun S => f6_spoil S x y) (fun S => f7_spoil S x y) T := by
  have hc := (AV_wfin hA.1).2.2.2.1
  have hn := hA.1.2.2.2.1
  by_cases c : 0 ≤ x ∧ x < nI ((wa (T 0)) 4 0)
  · obtain ⟨k, hk, rfl⟩ := arg_lt (by omega) (Int32.not_lt.mpr c.1) c.2
    by_cases c2 : (1 : Int32) ≤ y ∧ y ≤ 511
    · obtain ⟨b, b1, b2, rfl⟩ := arg_in (a := 1) (b := 511) (by decide) c2.1 c2.2 (by decide)
      have y1 : ¬ nI b < 1 := Int32.not_lt.mpr c2.1
      have hv := pT_AV (b := b) hA.1 (show k < 281 by omega) (by omega)
      have r0 : rT T 0 = T 0 := rT_o (Or.inl rfl)
      have hw := pT_wa (k := k) (b := b) hA.1
      have hx : nI (T 0 (250 + k)) ^^^ nI b = nI (pT (T 0) k b (250 + k)) := by
        rw [pT_s]
        exact (nI_xor (hA.1.2.2.2.2.2.1 k (by omega)) (by omega)).1
      refine ⟨nI (ca (pT (T 0) k b) k), wq (rT T) (pT (T 0) k b), wq_AI (rT_AI hA) hv, fun S hC => ?_, fun S hM => ?_⟩
      · obtain ⟨S1, e1, g1, g2⟩ := record6 hA (CI_CJ hC)
        have hv1 := g1.1
        rw [r0] at hv1
        obtain ⟨S2, hS2⟩ : ∃ S2, S2 = xup S1 24 0 k (nI (pT (T 0) k b (250 + k))) := ⟨_, rfl⟩
        have o2 : ∀ t, ¬ t = 24 → S2 t = S1 t := fun t h => by rw [hS2, xup_o h]
        have hcv : CV S2 0 (pT (T 0) k b) := by
          refine ⟨fun i hi => ?_, ?_, fun j hj => ?_, fun j hj => ?_⟩
          · rw [o2 22 (by decide), pT_o (by omega)]; exact hv1.1 i hi
          · rw [o2 4 (by decide), pT_o (by omega)]; exact hv1.2.1
          · rw [pT_o (by omega)] at hj
            rw [o2 23 (by decide), pT_o (by omega)]; exact hv1.2.2.1 j hj
          · rw [hS2, xup_s]
            by_cases cj : j = k
            · rw [if_pos cj, cj]
            · rw [if_neg cj, pT_o (by omega)]; exact hv1.2.2.2 j hj
        have hJ : CJ S2 (wq (rT T) (pT (T 0) k b)) := CJ_q g1 (fun t o h => by
          rw [hS2]
          simp only [xup, xua]
          rw [if_neg (fun q => h ⟨q.2, by omega⟩)]) hcv
        obtain ⟨S3, e3, q1, q2, q3⟩ := CJ_refresh hv hJ
        have hD : DV S3 (pT (T 0) k b) := q1.2.2.2.2.2.2.2.2
        have h5 := hD.2.1 k (by rw [hw]; exact hk)
        refine ⟨S3, ?_, q1, g2.tr (Cfr.tr (fun t ht => o2 t (by omega)) q2)⟩
        show f6_spoil S (nI k) (nI b) = _
        unfold f6_spoil
        rw [isCode_ok hA hC, xbI_eq, if_pos c, if_neg (by decide), if_neg y1, if_pos c2.2, e1, xbV_eq, xat_ok (by omega) (by decide), xat_ok (by omega) (by decide), hv1.2.2.2 k (by omega), hx, xlet_eq, ← hS2, e3, xbV_eq, xat_ok (by omega) (by decide), h5]
      · obtain ⟨S0, e0, g0, gC, gM, gF⟩ := now_ok hA.1 hM
        obtain ⟨S1, e1, g1, g2, g3⟩ := record7 hA gM
        have hv1 := g1.1
        rw [r0] at hv1
        have e42 : S1 42 0 k = nI ((wa (T 0)) 5 k) := by rw [g2 42 (by decide) (by decide)]; exact (gC.2.1 k hk).1
        obtain ⟨S2, hS2⟩ : ∃ S2, S2 = xup S1 33 0 (250 + k) (nI (pT (T 0) k b (250 + k))) := ⟨_, rfl⟩
        have o2 : ∀ t, ¬ t = 33 → S2 t = S1 t := fun t h => by rw [hS2, xup_o h]
        have hmv : MV S2 33 0 (pT (T 0) k b) := by
          intro i hi hc
          rw [pT_o (i := 3) (by omega)] at hc
          rw [Nat.zero_add, hS2, xup_s]
          by_cases ci : i = 250 + k
          · rw [if_pos ci, ci]
          · rw [if_neg ci, pT_o ci]; exact MV0 hv1 hi hc
        refine ⟨S2, ?_, MI_q g1 (by rw [o2 7 (by decide)]) (by rw [o2 7 (by decide)]) (fun t t1 t2 => by rw [o2 t (by omega)]) hmv, (FM_Mfr gF).tr (fun t h7 h32 => by rw [o2 t (by omega), g2 t (by omega) h7])⟩
        show f7_spoil S (nI k) (nI b) = _
        have h250 : (250 : Int32) + nI k = nI (250 + k) := nI_add 250 k
        have e33 : S2 33 0 (250 + k) = nI (pT (T 0) k b (250 + k)) := by rw [hS2, xup_s, if_pos rfl]
        have hfin : nI ((wa (T 0)) 5 k) ^^^ nI (pT (T 0) k b (250 + k)) = nI (ca (pT (T 0) k b) k) := by
          have := (AV_ca hv (k := k) (by rw [hw]; exact hk)).1
          rw [hw] at this
          exact this
        unfold f7_spoil
        rw [e0, xbV_eq, gC.1, in_lt _ _ (by omega), xbI_eq, if_pos c, if_neg (by decide), f7_in_ok, xbI_eq, if_pos c2, if_neg (by decide), e1, xbV_eq, h250, xat_ok (by omega) (by decide), xat_ok (by omega) (by decide), MV0 hv1 (i := 250 + k) (by omega) (by omega), hx, xlet_eq, ← hS2, xat_ok (by omega) (by decide), xat_ok (by omega) (by decide), o2 42 (by decide), e42, e33, hfin]
    · refine ⟨-2, T, hA, fun S hC => ⟨S, ?_, hC, Cfr.rf⟩, fun S hM => ?_⟩
      · show f6_spoil S (nI k) y = _
        unfold f6_spoil
        rw [isCode_ok hA hC, xbI_eq, if_pos c, if_neg (by decide)]
        by_cases y1 : y < 1
        · rw [if_pos y1]
        · rw [if_neg y1, if_neg (fun q => c2 ⟨Int32.not_lt.mp y1, q⟩)]
      · obtain ⟨S0, e0, g0, gC, gM, gF⟩ := now_ok hA.1 hM
        refine ⟨S0, ?_, gM, FM_Mfr gF⟩
        show f7_spoil S (nI k) y = _
        unfold f7_spoil
        rw [e0, xbV_eq, gC.1, in_lt _ _ (by omega), xbI_eq, if_pos c, if_neg (by decide), f7_in_ok, xbI_eq, if_neg c2, if_pos rfl]
  · refine ⟨-1, T, hA, fun S hC => ⟨S, ?_, hC, Cfr.rf⟩, fun S hM => ?_⟩
    · show f6_spoil S x y = _
      unfold f6_spoil
      rw [isCode_ok hA hC, xbI_eq, if_neg c, if_pos rfl]
    · obtain ⟨S0, e0, g0, gC, gM, gF⟩ := now_ok hA.1 hM
      refine ⟨S0, ?_, gM, FM_Mfr gF⟩
      show f7_spoil S x y = _
      unfold f7_spoil
      rw [e0, xbV_eq, gC.1, in_lt _ _ (by omega), xbI_eq, if_neg c, if_pos rfl]
