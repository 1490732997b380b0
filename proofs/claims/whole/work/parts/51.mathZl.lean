/-! fault, load -/
def z0 : wS := fun _ _ => 0
theorem z0_ZI : ZI z0 0 := ⟨Nat.zero_le _, fun i hi => absurd hi (Nat.not_lt_zero i), fun _ j hj => absurd hj (Nat.not_lt_zero j)⟩
def vf (T : wS) : Int32 := pf (T 10) (T 1 1) (T 1 1) 0 0 0 0
def wf (T : wS) : wS := psp (T 10) (T 1 1) 0 0 0 z0
theorem AI_CH {T : wS} (hA : AI T) : CH (T 10) (T 1 1) := hA.2.2.2.2
theorem wf_ZI {T : wS} (hA : AI T) (h : vf T = -6) : ZI (wf T) 0 := psp_ZI (AI_CH hA) (T 1 1) 0 0 0 0 z0 (Nat.zero_add _) (by decide) (by decide) h z0_ZI
theorem ff6 {S : xSt} {T : wS} (hA : AI T) (hC : CI S T) : f2_findFault S = some (S, some (.int (vf T))) := by
  have h80 := (AI_CH hA).1
  have := fault6 (AI_CH hA) (S := S) hC.2.2.2.2.1 hC.2.2.2.2.2.1 (T 1 1) xFU 0 0 0 0 (Nat.zero_add _) (by show T 1 1 < 1000000; omega) (by decide) (by decide) (by decide)
  rw [nI_0] at this
  exact this
theorem rp7 {S : xSt} {T : wS} (hA : AI T) (hM : MI S T) : ∃ S', f7_readPad S = some (S', some (.int (vf T))) ∧ (vf T = -6 → S' 7 0 20 = nI ((wf T) 0 0) ∧ ((wf T) 0 0 ≤ 240 → ∀ j, j < (wf T) 0 0 → S' 47 0 j = nI ((wf T) 1 j))) ∧ MI S' T ∧ FP S S' := by
  have h80 := (AI_CH hA).1
  have hnd : nd 0 0 = 1 := rfl
  obtain ⟨S', e, g1, g2⟩ := pad7 (AI_CH hA) (T 1 1) xFU 0 0 0 0 z0 (xup S 7 0 20 0) (Nat.zero_add _) (by show T 1 1 < 1000000; omega) (by decide) (by decide) (by decide) (by rw [xup_s, if_neg (by decide)]; exact hM.2.2.2.2.1) (fun j hj => by rw [xup_o (by decide)]; exact hM.2.2.2.2.2 j hj) z0_ZI ⟨by rw [xup_s, if_pos rfl]; rfl, fun _ j hj => absurd hj (Nat.not_lt_zero j), fun i hi => absurd hi (Nat.not_lt_zero i)⟩
  have hF := FP.c.tr g2
  rw [hnd, nI_0] at e
  refine ⟨S', ?_, g1, MI_at hM (hF.2 2 (by decide)) (hF.2 6 (by decide)) (fun t a b => by rw [hF.1 t (by omega) (by omega)]), hF⟩
  unfold f7_readPad
  rw [xlet_eq, e]
  rfl
theorem FP_Mfr {S S' : xSt} (h : FP S S') : Mfr S S' := fun t h7 h32 => h.1 t h7 (by omega)
theorem fault_ok {T : wS} (hA : AI T) : OKc (fun S => f6_fault S) (fun S => f7_fault S) T := by
  refine ⟨vf T, T, hA, fun S hC => ⟨S, ?_, hC, Cfr.rf⟩, fun S hM => ?_⟩
  · show f6_fault S = _
    unfold f6_fault
    rw [ff6 hA hC, xbI_eq]
  · obtain ⟨S1, e1, g1, g2, g3⟩ := rp7 hA hM
    refine ⟨S1, ?_, g2, FP_Mfr g3⟩
    show f7_fault S = _
    unfold f7_fault
    rw [e1, xbI_eq]
theorem wu_AI {T : wS} (hA : AI T) : AI (wu T 1 1 0) := by
  have e0 : ∀ f, ¬ f = 1 → (wu T 1 1 0) f = T f := fun f h => wu_o h
  have e1 : ∀ i, ¬ i = 1 → (wu T 1 1 0) 1 i = T 1 i := fun i h => by rw [wu_s, if_neg h]
  have e2 : (wu T 1 1 0) 1 1 = 0 := by rw [wu_s, if_pos rfl]
  obtain ⟨a1, a2, a3, a4, a5, a6⟩ := hA
  refine ⟨by rw [e0 0 (by decide)]; exact a1, by rw [e1 0 (by decide)]; exact a2, fun j hj => ?_, fun i hi => ?_, by rw [e2]; omega, fun j hj => by rw [e2] at hj; omega⟩
  · rw [e1 0 (by decide)] at hj
    rw [e0 _ (by omega)]; exact a3 j hj
  · rw [e1 _ (by omega), e0 _ (by omega)]; exact a4 i hi
theorem CJ_pad {S : xSt} {T : wS} (h : CJ S T) : CJ (xup S 2 0 4 0) (wu T 1 1 0) := by
  have e0 : ∀ f, ¬ f = 1 → (wu T 1 1 0) f = T f := fun f h => wu_o h
  have e1 : ∀ i, ¬ i = 1 → (wu T 1 1 0) 1 i = T 1 i := fun i h => by rw [wu_s, if_neg h]
  have e2 : (wu T 1 1 0) 1 1 = 0 := by rw [wu_s, if_pos rfl]
  obtain ⟨c1, c2, ⟨l, c3, c4, c5⟩, c6, c7, c8, c9, c10⟩ := h
  have hk : ∀ t, ¬ t = 2 → xup S 2 0 4 0 t = S t := fun t h => xup_o h
  have hg : ∀ o b, CV S o b → CV (xup S 2 0 4 0) o b := fun o b hc => CV_fr hc (by rw [hk 4 (by decide)]) (by rw [hk 22 (by decide)]) (by rw [hk 23 (by decide)]) (by rw [hk 24 (by decide)])
  have hb : ∀ o, BS S o → BS (xup S 2 0 4 0) o := fun o hc => BS_fr hc (by rw [hk 10 (by decide)]) (by rw [hk 11 (by decide)]) (by rw [hk 12 (by decide)])
  unfold CJ
  rw [e0 0 (by decide), e1 0 (by decide), e2, hk 1 (by decide)]
  refine ⟨hg _ _ c1, c2, ⟨l, c3, c4, fun j hj => ?_⟩, fun i hi => ?_, by rw [xup_s, if_pos rfl]; rfl, fun j hj => absurd hj (Nat.not_lt_zero j), hb 0 c9, hb 1 c10⟩
  · rw [e0 _ (by omega)]; exact hg _ _ (c5 j hj)
  · rw [e1 _ (by omega), e0 _ (by omega), hk 31 (by decide)]; exact ⟨(c6 i hi).1, fun q => hg _ _ ((c6 i hi).2 q)⟩
theorem MI_pad {S : xSt} {T : wS} (h : MI S T) : MI (xup S 7 0 6 0) (wu T 1 1 0) := by
  have e0 : ∀ f, ¬ f = 1 → (wu T 1 1 0) f = T f := fun f h => wu_o h
  have e1 : ∀ i, ¬ i = 1 → (wu T 1 1 0) 1 i = T 1 i := fun i h => by rw [wu_s, if_neg h]
  have e2 : (wu T 1 1 0) 1 1 = 0 := by rw [wu_s, if_pos rfl]
  obtain ⟨m1, m2, m3, m4, m5, m6⟩ := h
  unfold MI
  rw [e0 0 (by decide), e1 0 (by decide), e2]
  unfold MV at *
  rw [xup_o (show ¬ 33 = 7 by decide), xup_o (show ¬ 34 = 7 by decide), xup_o (show ¬ 35 = 7 by decide), xup_o (show ¬ 36 = 7 by decide), xup_s, if_neg (by decide), xup_s, if_pos rfl]
  refine ⟨m1, m2, fun j hj => ?_, fun i hi => ?_, rfl, fun j hj => absurd hj (Nat.not_lt_zero j)⟩
  · rw [e0 _ (by omega)]; exact m3 j hj
  · rw [e1 _ (by omega), e0 _ (by omega)]; exact m4 i hi
theorem wu_wq (T : wS) (a : Nat → Nat) : wu (wq T a) 1 1 0 = wq (wu T 1 1 0) a := by
  funext f i
  show (if f = 1 ∧ i = 1 then 0 else (if f = 0 then a else T f) i) = (if f = 0 then a else fun i => if f = 1 ∧ i = 1 then 0 else T f i) i
  by_cases c : f = 0
  · rw [if_pos c, if_pos c, if_neg (by omega)]
  · rw [if_neg c, if_neg c]
theorem load_loop {n M : Nat} {v : Nat → Int32} (h : n + M ≤ 240) : ∀ (d F i : Nat) (S : xSt), i + d = M → d < F → S 7 0 20 = nI M → S 33 0 3 = nI n → (∀ j, j < M → S 47 0 j = v j) → f7_load_L38 F S (nI i) = f7_load_J74 (cpl 33 (10 + n) v d i S)
  | d, 0, _, _, _, h, _, _, _ => absurd h (Nat.not_lt_zero _)
  | 0, F + 1, i, S, e, _, h20, h3, hv => by
    show b7_load_L38 (f7_load_L38 F) S (nI i) = _
    unfold b7_load_L38
    rw [h20, if_pos (nI_le (by omega) (by omega))]
    rfl
  | d + 1, F + 1, i, S, e, hF, h20, h3, hv => by
    show b7_load_L38 (f7_load_L38 F) S (nI i) = _
    have h10 : (10 : Int32) + nI n = nI (10 + n) := nI_add 10 n
    unfold b7_load_L38
    rw [h20, if_neg (nI_ge (by omega) (by omega)), xat_lit (v := 3) 3 rfl (by decide) (by decide), h3, xat_ok (by omega) (by decide), h10, nI_add, xat_ok (by omega) (by decide), xlet_eq, nI_1, hv i (by omega)]
    exact load_loop h d F (i + 1) _ (by omega) (by omega) (by rw [xup_o (by decide)]; exact h20) (by rw [xup_s, if_neg (by omega)]; exact h3) (fun j hj => by rw [xup_o (by decide)]; exact hv j hj)
theorem CI_16 {S S' : xSt} {T : wS} (h : CI S T) (hF : ∀ t, ¬ t = 16 → ¬ t = 17 → ¬ t = 18 → S' t = S t) : CI S' T := by
  unfold CI CV DV CF CE CB CC CR BS at h ⊢
  simp only [hF 0 (by decide) (by decide) (by decide), hF 1 (by decide) (by decide) (by decide), hF 2 (by decide) (by decide) (by decide), hF 3 (by decide) (by decide) (by decide), hF 4 (by decide) (by decide) (by decide), hF 5 (by decide) (by decide) (by decide), hF 10 (by decide) (by decide) (by decide), hF 11 (by decide) (by decide) (by decide), hF 12 (by decide) (by decide) (by decide), hF 13 (by decide) (by decide) (by decide), hF 15 (by decide) (by decide) (by decide), hF 19 (by decide) (by decide) (by decide), hF 20 (by decide) (by decide) (by decide), hF 21 (by decide) (by decide) (by decide), hF 22 (by decide) (by decide) (by decide), hF 23 (by decide) (by decide) (by decide), hF 24 (by decide) (by decide) (by decide), hF 25 (by decide) (by decide) (by decide), hF 26 (by decide) (by decide) (by decide), hF 27 (by decide) (by decide) (by decide), hF 28 (by decide) (by decide) (by decide), hF 29 (by decide) (by decide) (by decide), hF 31 (by decide) (by decide) (by decide), hF 32 (by decide) (by decide) (by decide)]
  exact h
theorem sp6 {S : xSt} {T : wS} (hA : AI T) (hC : CI S T) (h : vf T = -6) : ∃ S', f2_spell S = some (S', some (.int (nI ((wf T) 0 0)))) ∧ ((wf T) 0 0 ≤ 240 → ∀ j, j < (wf T) 0 0 → S' 16 0 j = nI ((wf T) 1 j)) ∧ ∀ t, ¬ t = 16 → ¬ t = 17 → ¬ t = 18 → S' t = S t := by
  have h80 := (AI_CH hA).1
  obtain ⟨S', e, g⟩ := spell6 (AI_CH hA) (T 1 1) xFU 0 0 0 0 z0 S (Nat.zero_add _) (by show T 1 1 < 1000000; omega) (by decide) (by decide) h hC.2.2.2.2.1 hC.2.2.2.2.2.1 z0_ZI ⟨fun _ j hj => absurd hj (Nat.not_lt_zero j), fun i hi => absurd hi (Nat.not_lt_zero i)⟩
  refine ⟨S', ?_, g⟩
  have hz : nI (z0 0 0) = 0 := rfl
  rw [hz, nI_0] at e
  exact e
theorem load_ok {T : wS} (hA : AI T) : OKc (fun S => f6_load S) (fun S => f7_load S) T := by
  have hn := hA.1.2.2.2.1
  by_cases hv : vf T = -6
  · obtain ⟨zi1, -, zi3⟩ := wf_ZI hA hv
    by_cases cq : T 0 3 + (wf T) 0 0 ≤ 240
    · have hle : nI (T 0 3 + (wf T) 0 0) ≤ 240 := nI_le (a := T 0 3 + (wf T) 0 0) (b := 240) cq (by decide)
      have r0 : rT T 0 = T 0 := rT_o (Or.inl rfl)
      have w0 : (wu (rT T) 1 1 0) 0 = T 0 := by rw [wu_o (by decide), r0]
      have e3 := apn_3 (T 0) ((wf T) 0 0) ((wf T) 1)
      have hs8 : ∀ j, j < (wf T) 0 0 → (wf T) 1 j < 8 := zi3 (by omega)
      have hav := apn_AV (sp := (wf T) 1) hA.1 cq hs8
      have hAr : AV (rT T 0) := by rw [r0]; exact hA.1
      have hAw : AV ((wu (rT T) 1 1 0) 0) := by rw [w0]; exact hA.1
      refine ⟨nI (T 0 3 + (wf T) 0 0), wq (wu (rT T) 1 1 0) (apn (T 0) ((wf T) 0 0) ((wf T) 1)), wq_AI (wu_AI (rT_AI hA)) hav, fun S hC => ?_, fun S hM => ?_⟩
      · obtain ⟨S3, e1, f1, f2⟩ := sp6 hA hC hv
        have hC3 := CI_16 hC f2
        obtain ⟨S5, e5, g1, g2, g3⟩ := record6f hA (CI_CJ hC3)
        have hv1 := g1.1
        rw [r0] at hv1
        have hok : xcpok (0 : Int32) (nI (T 0 3)) (nI ((wf T) 0 0)) 240 240 := by
          have z1 : (0 : Int32).toNatClampNeg = 0 := rfl
          refine ⟨by decide, nI_pos (by omega), nI_pos (by omega), ?_, ?_⟩
          · rw [z1, nI_clamp (by omega)]; omega
          · rw [nI_clamp (by omega), nI_clamp (by omega)]; omega
        have hne : ∀ k : Option xR, xne (xcpok (0 : Int32) (nI (T 0 3)) (nI ((wf T) 0 0)) 240 240) k = k := fun k => if_pos hok
        obtain ⟨S6, hS6⟩ : ∃ S6, S6 = xua S5 23 0 (va_cpy (S5 16 0) (S5 23 0) 0 (T 0 3) ((wf T) 0 0)) := ⟨_, rfl⟩
        obtain ⟨S8, hS8⟩ : ∃ S8, S8 = xup (xup S6 4 0 3 (nI (T 0 3 + (wf T) 0 0))) 2 0 4 0 := ⟨_, rfl⟩
        have o4 : S6 4 = S5 4 := by rw [hS6, xua_o (by decide)]
        have hJ := CJ_pad g1
        obtain ⟨S9, S10, k9, k10, k1, k2⟩ := apn6 (S := S8) (S1 := xup S5 2 0 4 0) (T := wu (rT T) 1 1 0) (sp := (wf T) 1) (q := (wf T) 0 0) hAw (by rw [w0]; exact cq) hs8 hJ (fun t o h => by
          have a : ¬ (t = 4 ∧ o = 0) := fun q => h ⟨q.2, Or.inl q.1⟩
          have b : ¬ (t = 23 ∧ o = 0) := fun q => h ⟨q.2, Or.inr q.1⟩
          rw [hS8, hS6]
          by_cases c : t = 2 ∧ o = 0
          · obtain ⟨rfl, rfl⟩ := c
            funext j
            rw [xup_s, xup_s, xup_o (by decide), xua_o (by decide)]
          · simp only [xup, xua, if_neg c, if_neg a, if_neg b]) (by rw [hS8, xup_o (by decide), xup_s, if_pos rfl, w0]) (fun j => by
          rw [hS8, xup_o (by decide), xup_o (by decide), hS6, xua_s, xup_o (by decide), w0]
          unfold va_cpy
          by_cases c : T 0 3 ≤ j ∧ j < T 0 3 + (wf T) 0 0
          · rw [if_pos c, if_pos c, Nat.zero_add, g3 16 0 (by decide) (by decide)]
            exact f1 (by omega) _ (by omega)
          · rw [if_neg c, if_neg c])
        rw [w0] at k1
        have h5 := k1.1.2.1
        rw [wq_0, e3] at h5
        refine ⟨S10, ?_, k1, Cfr.tr (fun t ht => f2 t (by omega) (by omega) (by omega)) (g2.tr (Cfr.tr (fun t ht => by rw [hS8, xup_o (by omega), xup_o (by omega), hS6, xua_o (by omega)]) k2))⟩
        show f6_load S = _
        have z1 : (0 : Int32).toNatClampNeg = 0 := rfl
        unfold f6_load
        rw [ff6 hA hC, xbI_eq, if_pos hv, e1, xbI_eq, hC3.1.2.1, nI_add, if_pos hle, e5, xbV_eq, hv1.2.1, hne, xlet_eq, z1, nI_clamp (by omega), nI_clamp (by omega), ← hS6, o4, hv1.2.1, nI_add, xlet_eq, xlet_eq, ← hS8, k9, xbV_eq, k10, xbV_eq, h5]
      · obtain ⟨S1, e1, f1, f2, f3⟩ := rp7 hA hM
        obtain ⟨h20, h47⟩ := f1 hv
        obtain ⟨S4, e4, g1, g2, g3⟩ := record7 hA f2
        have hv1 := g1.1
        have e33 : S4 33 0 3 = nI (T 0 3) := by
          rw [r0] at hv1
          exact MV0 hv1 (by omega) (by omega)
        have e20 : S4 7 0 20 = nI ((wf T) 0 0) := by rw [g3 20 (by decide)]; exact h20
        have l := load_loop (v := fun j => nI ((wf T) 1 j)) cq ((wf T) 0 0) xFU 0 S4 (Nat.zero_add _) (by show (wf T) 0 0 < 1000000; omega) e20 e33 (fun j hj => by rw [g2 47 (by decide) (by decide)]; exact h47 (by omega) j hj)
        obtain ⟨S2, hS2⟩ : ∃ S2, S2 = cpl 33 (10 + T 0 3) (fun j => nI ((wf T) 1 j)) ((wf T) 0 0) 0 S4 := ⟨_, rfl⟩
        rw [← hS2] at l
        have o2 : ∀ t, ¬ t = 33 → S2 t = S4 t := fun t h => by rw [hS2, cpl_o h]
        have e2 : S2 33 0 3 = nI (T 0 3) := by rw [hS2, cpl_s, if_neg (by omega)]; exact e33
        obtain ⟨S6, e6, k1, k2, k3⟩ := apn7 (S := xup S2 33 0 3 (nI (T 0 3 + (wf T) 0 0))) (S1 := S4) (T := rT T) (sp := (wf T) 1) (q := (wf T) 0 0) hAr (by rw [r0]; exact cq) g1 (fun t h => by rw [xup_o h, o2 t h]) (by rw [xup_s, if_pos rfl, r0]) (fun i h => by rw [xup_s, if_neg h, hS2, cpl_s, r0, Nat.add_zero])
        rw [r0] at k1 k3
        have k4 := MI_pad k1
        rw [wu_wq] at k4
        refine ⟨xup S6 7 0 6 0, ?_, k4, (FP_Mfr f3).tr (Mfr.tr (fun t h7 h32 => (o2 t (by omega)).trans (g2 t (by omega) h7)) ((up_Mfr (by decide)).tr (k2.tr (up_Mfr (by decide)))))⟩
        show f7_load S = _
        unfold f7_load
        rw [e1, xbI_eq, if_pos hv, xat_lit (v := 3) 3 rfl (by decide) (by decide), MV0 f2.1 (i := 3) (by omega) (by omega), h20, nI_add, if_pos hle, e4, xbV_eq, ← nI_0, l]
        unfold f7_load_J74
        rw [xat_lit (v := 3) 3 rfl (by decide) (by decide), xat_lit (v := 3) 3 rfl (by decide) (by decide), e2, o2 7 (by decide), e20, nI_add, xlet_eq, e6, xbV_eq, xlet_eq, xat_lit (v := 3) 3 rfl (by decide) (by decide), xup_o (by decide), k3]
        rfl
    · have hle : ¬ nI (T 0 3 + (wf T) 0 0) ≤ 240 := nI_ge (a := 240) (b := T 0 3 + (wf T) 0 0) (by omega) (by omega)
      refine ⟨-4, T, hA, fun S hC => ?_, fun S hM => ?_⟩
      · obtain ⟨S3, e1, f1, f2⟩ := sp6 hA hC hv
        have hC3 := CI_16 hC f2
        refine ⟨S3, ?_, hC3, fun t ht => f2 t (by omega) (by omega) (by omega)⟩
        show f6_load S = _
        unfold f6_load
        rw [ff6 hA hC, xbI_eq, if_pos hv, e1, xbI_eq, hC3.1.2.1, nI_add, if_neg hle]
      · obtain ⟨S1, e1, f1, f2, f3⟩ := rp7 hA hM
        obtain ⟨h20, h47⟩ := f1 hv
        refine ⟨S1, ?_, f2, FP_Mfr f3⟩
        show f7_load S = _
        unfold f7_load
        rw [e1, xbI_eq, if_pos hv, xat_lit (v := 3) 3 rfl (by decide) (by decide), MV0 f2.1 (i := 3) (by omega) (by omega), h20, nI_add, if_neg hle]
  · refine ⟨-3, T, hA, fun S hC => ⟨S, ?_, hC, Cfr.rf⟩, fun S hM => ?_⟩
    · show f6_load S = _
      unfold f6_load
      rw [ff6 hA hC, xbI_eq, if_neg hv]
    · obtain ⟨S1, e1, f1, f2, f3⟩ := rp7 hA hM
      refine ⟨S1, ?_, f2, FP_Mfr f3⟩
      show f7_load S = _
      unfold f7_load
      rw [e1, xbI_eq, if_neg hv]
