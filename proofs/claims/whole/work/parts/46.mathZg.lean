/-! undo, save, restore -/
def uT (T : wS) : wS := fun f i => if f = 0 then T (1 + T 1 0) i else if f = 1 ∧ i = 0 then T 1 0 - 1 else T f i
theorem uT_0 (T : wS) : uT T 0 = T (1 + T 1 0) := rfl
theorem uT_10 (T : wS) : uT T 1 0 = T 1 0 - 1 := rfl
theorem uT_1 (T : wS) {i : Nat} (h : ¬ i = 0) : uT T 1 i = T 1 i := by
  show (if 1 = 0 then T (1 + T 1 0) i else if 1 = 1 ∧ i = 0 then T 1 0 - 1 else T 1 i) = _
  rw [if_neg (by decide), if_neg (fun q => h q.2)]
theorem uT_o (T : wS) {f : Nat} (h : 2 ≤ f) : uT T f = T f := by
  funext i
  show (if f = 0 then T (1 + T 1 0) i else if f = 1 ∧ i = 0 then T 1 0 - 1 else T f i) = _
  rw [if_neg (by omega), if_neg (by omega)]
theorem uT_2 (T : wS) (j : Nat) : uT T (2 + j) = T (2 + j) := uT_o T (by omega)
theorem uT_8 (T : wS) (j : Nat) : uT T (8 + j) = T (8 + j) := uT_o T (by omega)
theorem uT_12 (T : wS) (i : Nat) : uT T 1 (2 + i) = T 1 (2 + i) := uT_1 T (by omega)
theorem uT_AI {T : wS} (hA : AI T) (h : ¬ T 1 0 = 0) : AI (uT T) := by
  obtain ⟨a1, a2, a3, a4, a5, a6⟩ := hA
  unfold AI
  simp only [uT_0, uT_10, uT_2, uT_8, uT_12, uT_1 T (show ¬ 1 = 0 by decide), uT_o T (show 2 ≤ 10 by decide)]
  refine ⟨?_, by omega, fun j hj => a3 j (by omega), a4, a5, a6⟩
  have := a3 (T 1 0 - 1) (by omega)
  rw [show 2 + (T 1 0 - 1) = 1 + T 1 0 by omega] at this
  exact this
theorem undo_loop {h : Nat} (hh : h < 6) {v : Nat → Int32} : ∀ (d F i : Nat) (S : xSt), i + d = 560 → d < F → S 7 0 2 = nI h → (∀ j, j < 560 → S 34 0 (560 * h + j) = v j) → f7_undo_L22 F S (nI i) = f7_undo_J56 (cpl 33 0 v d i S)
  | d, 0, _, _, _, h, _, _ => absurd h (Nat.not_lt_zero _)
  | 0, F + 1, i, S, e, _, h2, hv => by
    show b7_undo_L22 (f7_undo_L22 F) S (nI i) = _
    unfold b7_undo_L22
    have h1 : (560 : Int32) ≤ nI i := nI_le (a := 560) (b := i) (by omega) (by omega)
    rw [if_pos h1]
    rfl
  | d + 1, F + 1, i, S, e, hF, h2, hv => by
    show b7_undo_L22 (f7_undo_L22 F) S (nI i) = _
    have h1 : ¬ ((560 : Int32) ≤ nI i) := nI_ge (a := i) (b := 560) (by omega) (by omega)
    unfold b7_undo_L22
    rw [if_neg h1, h2, m560, xat_ok (by omega) (by decide), xat_ok (by omega) (by decide), xlet_eq, nI_1, hv i (by omega), cpl, Nat.zero_add]
    exact undo_loop hh d F (i + 1) _ (by omega) (by omega) (by rw [xup_o (by decide)]; exact h2) (fun j hj => by rw [xup_o (by decide)]; exact hv j hj)
theorem back6 {S : xSt} {T : wS} (hA : AI T) (h0 : ¬ T 1 0 = 0) (h : CJ S T) : ∃ S', f1_takeBack S 0 = some (S', none) ∧ CJ S' (uT T) ∧ Cfr S S' := by
  obtain ⟨c1, c2, ⟨l, c3, c4, c5⟩, c6, c7, c8, c9, c10⟩ := h
  have h6 := hA.2.1
  have hlast := hA.2.2.1 (T 1 0 - 1) (by omega)
  have hcv := c5 (T 1 0 - 1) (by omega)
  rw [show 2 + (T 1 0 - 1) = 1 + T 1 0 by omega] at hlast hcv
  rw [show (l + 7 + (T 1 0 - 1) - T 1 0) % 6 = l by omega] at hcv
  obtain ⟨S2, e2, g1, g2⟩ := copy_ok S (1 + l) 0
  have h1 : S2 1 0 = S 1 0 := g2 1 0 (by omega)
  have hg : ∀ o b, ¬ o = 0 → CV S o b → CV S2 o b := fun o b ho hc => CV_fr hc (g2 4 o (fun q => ho q.1)) (g2 22 o (fun q => ho q.1)) (g2 23 o (fun q => ho q.1)) (g2 24 o (fun q => ho q.1))
  have hb : ∀ o, BS S o → BS S2 o := fun o hc => BS_fr hc (g2 10 o (by omega)) (g2 11 o (by omega)) (g2 12 o (by omega))
  obtain ⟨l', hl', hll, he⟩ : ∃ l', l' < 6 ∧ (l = l' + 1 ∨ (l = 0 ∧ l' = 5)) ∧ f1_takeBack S 0 = f1_takeBack_J31 0 S2 (nI l') := by
    unfold f1_takeBack
    rw [c4, xat_ok c3 (by decide), e2, xbV_eq, h1, c4]
    by_cases c : 0 < l
    · have q : (0 : Int32) < nI l := nI_lt (a := 0) (b := l) c (by omega)
      exact ⟨l - 1, by omega, Or.inl (by omega), by rw [if_pos q, show nI l - 1 = nI (l - 1) from pk_sub (b := 1) (by omega)]⟩
    · have q : ¬ ((0 : Int32) < nI l) := nI_nlt (a := 0) (b := l) (by omega) (by decide)
      exact ⟨5, by decide, Or.inr ⟨by omega, rfl⟩, by rw [if_neg q]; rfl⟩
  obtain ⟨S', hS'⟩ : ∃ S', S' = xup (xup S2 1 0 1 (nI l')) 1 0 2 (nI (T 1 0 - 1)) := ⟨_, rfl⟩
  have ho : ∀ t, ¬ t = 1 → S' t = S2 t := fun t h => by rw [hS', xup_o h, xup_o h]
  refine ⟨S', ?_, ?_, fun t ht => by rw [ho t (by omega)]; funext o; exact g2 t o (by omega)⟩
  · rw [he]
    have e3 : (xup S2 1 0 1 (nI l')) 1 0 2 = nI (T 1 0) := by rw [xup_s, if_neg (by decide), h1]; exact c2
    unfold f1_takeBack_J31
    rw [xlet_eq, xlet_eq, e3, show nI (T 1 0) - 1 = nI (T 1 0 - 1) from pk_sub (b := 1) (by omega), ← hS']
  · have hgS : ∀ o b, CV S2 o b → CV S' o b := fun o b hc => CV_fr hc (by rw [ho 4 (by decide)]) (by rw [ho 22 (by decide)]) (by rw [ho 23 (by decide)]) (by rw [ho 24 (by decide)])
    have hbS : ∀ o, BS S2 o → BS S' o := fun o hc => BS_fr hc (by rw [ho 10 (by decide)]) (by rw [ho 11 (by decide)]) (by rw [ho 12 (by decide)])
    unfold CJ
    simp only [uT_0, uT_10, uT_2, uT_8, uT_12, uT_1 T (show ¬ 1 = 0 by decide), uT_o T (show 2 ≤ 10 by decide), ho 31 (by decide), ho 2 (by decide), ho 15 (by decide), g2 31 0 (by omega), g2 2 0 (by omega), g2 15 0 (by omega)]
    refine ⟨hgS _ _ (g1 _ hlast.2.2.2.1 hcv), by rw [hS', xup_s, if_pos rfl], ⟨l', hl', by rw [hS', xup_s, if_neg (by decide), xup_s, if_pos rfl], fun j hj => ?_⟩, fun i hi => ⟨(c6 i hi).1, fun q => hgS _ _ (hg _ _ (by omega) ((c6 i hi).2 q))⟩, c7, c8, hbS 0 (hb 0 c9), hbS 1 (hb 1 c10)⟩
    rw [show (l' + 7 + j - (T 1 0 - 1)) % 6 = (l + 7 + j - T 1 0) % 6 by omega]
    exact hgS _ _ (hg _ _ (by omega) (c5 j (by omega)))
theorem undo_ok {T : wS} (hA : AI T) : OKc (fun S => f6_undo S) (fun S => f7_undo S) T := by
  have h6 := hA.2.1
  by_cases h0 : T 1 0 = 0
  · refine ⟨-5, T, hA, fun S hC => ⟨S, ?_, hC, Cfr.rf⟩, fun S hM => ⟨S, ?_, hM, Mfr.rf⟩⟩
    · show f6_undo S = _
      unfold f6_undo
      rw [hC.2.1, h0, nI_0, if_pos rfl]
    · show f7_undo S = _
      unfold f7_undo
      rw [hM.2.1, h0, nI_0, if_pos rfl]
  · have hne : ¬ nI (T 1 0) = 0 := fun q => h0 (nI_inj (b := 0) (by omega) (by decide) q)
    have hU := uT_AI hA h0
    refine ⟨nI (T 1 0 - 1), uT T, hU, fun S hC => ?_, fun S hM => ?_⟩
    · obtain ⟨S1, e1, g1, g2⟩ := back6 hA h0 (CI_CJ hC)
      obtain ⟨S2, e2, k1, k2, k3⟩ := CJ_refresh hU.1 g1
      refine ⟨S2, ?_, k1, g2.tr k2⟩
      show f6_undo S = _
      have h5 := k1.2.1
      rw [uT_10] at h5
      unfold f6_undo
      rw [hC.2.1, if_neg hne, e1, xbV_eq, e2, xbV_eq, h5]
    · obtain ⟨m1, m2, m3, m4, m5, m6⟩ := hM
      have hmv := m3 (T 1 0 - 1) (by omega)
      rw [show 2 + (T 1 0 - 1) = 1 + T 1 0 by omega] at hmv
      obtain ⟨S1, hS1⟩ : ∃ S1, S1 = xup S 7 0 2 (nI (T 1 0 - 1)) := ⟨_, rfl⟩
      have l := undo_loop (h := T 1 0 - 1) (by omega) (v := fun j => S 34 0 (560 * (T 1 0 - 1) + j)) 560 xFU 0 S1 rfl (by show 560 < 1000000; omega) (by rw [hS1, xup_s, if_pos rfl]) (fun j hj => by rw [hS1, xup_o (by decide)])
      obtain ⟨S2, hS2⟩ : ∃ S2, S2 = cpl 33 0 (fun j => S 34 0 (560 * (T 1 0 - 1) + j)) 560 0 S1 := ⟨_, rfl⟩
      rw [← hS2] at l
      have o2 : ∀ t, ¬ t = 33 → S2 t = S1 t := fun t h => by rw [hS2, cpl_o h]
      have o1 : ∀ t, ¬ t = 7 → S1 t = S t := fun t h => by rw [hS1, xup_o h]
      have e2 : S2 7 0 2 = nI (T 1 0 - 1) := by rw [o2 7 (by decide), hS1, xup_s, if_pos rfl]
      refine ⟨S2, ?_, ?_, fun t h7 h32 => by rw [o2 t (by omega), o1 t h7]⟩
      · show f7_undo S = _
        unfold f7_undo
        rw [m2, if_neg hne, show nI (T 1 0) - 1 = nI (T 1 0 - 1) from pk_sub (b := 1) (by omega), xlet_eq, ← hS1, ← nI_0, l]
        unfold f7_undo_J56
        rw [e2]
      · have hv : MV S2 33 0 (T (1 + T 1 0)) := by
          intro i hi hc
          rw [Nat.zero_add, hS2, cpl_s, if_pos (by omega)]
          exact hmv i hi hc
        unfold MI
        simp only [uT_0, uT_10, uT_2, uT_8, uT_12, uT_1 T (show ¬ 1 = 0 by decide), uT_o T (show 2 ≤ 10 by decide), o2 36 (by decide), o2 37 (by decide), o1 36 (by decide), o1 37 (by decide)]
        have e6 : S2 7 0 6 = S 7 0 6 := by rw [o2 7 (by decide), hS1, xup_s, if_neg (by decide)]
        rw [e6]
        unfold MV at m3 m4 hv ⊢
        rw [o2 34 (by decide), o2 35 (by decide), o1 34 (by decide), o1 35 (by decide)]
        exact ⟨hv, e2, fun j hj => m3 j (by omega), m4, m5, m6⟩
def vT (T : wS) (s : Nat) : wS := fun f i => if f = 8 + s then T 0 i else if f = 1 ∧ i = 2 + s then 1 else T f i
theorem vT_s (T : wS) (s : Nat) : vT T s (8 + s) = T 0 := by
  funext i
  show (if 8 + s = 8 + s then T 0 i else _) = _
  rw [if_pos rfl]
theorem vT_o (T : wS) {s f : Nat} (h : ¬ f = 8 + s) (h1 : ¬ f = 1) : vT T s f = T f := by
  funext i
  show (if f = 8 + s then T 0 i else if f = 1 ∧ i = 2 + s then 1 else T f i) = _
  rw [if_neg h, if_neg (fun q => h1 q.1)]
theorem vT_1 (T : wS) (s i : Nat) : vT T s 1 i = if i = 2 + s then 1 else T 1 i := by
  show (if 1 = 8 + s then T 0 i else if 1 = 1 ∧ i = 2 + s then 1 else T 1 i) = _
  rw [if_neg (by omega)]
  by_cases c : i = 2 + s
  · rw [if_pos ⟨rfl, c⟩, if_pos c]
  · rw [if_neg (fun q => c q.2), if_neg c]
theorem vT_all (T : wS) {s : Nat} (hs : s < 2) : vT T s 0 = T 0 ∧ vT T s 1 0 = T 1 0 ∧ vT T s 1 1 = T 1 1 ∧ vT T s 10 = T 10 ∧ ∀ j, j < 6 → vT T s (2 + j) = T (2 + j) :=
  ⟨vT_o T (by omega) (by omega), by rw [vT_1, if_neg (by omega)], by rw [vT_1, if_neg (by omega)], vT_o T (by omega) (by omega), fun j hj => vT_o T (by omega) (by omega)⟩
theorem vT_AI {T : wS} (hA : AI T) {s : Nat} (hs : s < 2) : AI (vT T s) := by
  obtain ⟨a1, a2, a3, a4, a5, a6⟩ := hA
  obtain ⟨v0, v1, v2, v3, v4⟩ := vT_all T hs
  unfold AI
  rw [v0, v1, v2, v3]
  refine ⟨a1, a2, fun j hj => by rw [v4 j (by omega)]; exact a3 j hj, fun i hi => ?_, a5, a6⟩
  rw [vT_1]
  by_cases c : i = s
  · subst c
    rw [if_pos rfl, vT_s]; exact ⟨Nat.le_refl _, fun _ => a1⟩
  · rw [if_neg (by omega), vT_o T (by omega) (by omega)]; exact a4 i hi
theorem save_loop {s : Nat} (hs : s < 2) {v : Nat → Int32} : ∀ (d F i : Nat) (S : xSt), i + d = 560 → d < F → (∀ j, j < 560 → S 33 0 j = v j) → f7_save_L14 F S (nI s) (nI i) = f7_save_J45 (cpl 35 (560 * s) v d i S) (nI s)
  | d, 0, _, _, _, h, _ => absurd h (Nat.not_lt_zero _)
  | 0, F + 1, i, S, e, _, hv => by
    show b7_save_L14 (f7_save_L14 F) S (nI s) (nI i) = _
    unfold b7_save_L14
    have h1 : (560 : Int32) ≤ nI i := nI_le (a := 560) (b := i) (by omega) (by omega)
    rw [if_pos h1]
    rfl
  | d + 1, F + 1, i, S, e, hF, hv => by
    show b7_save_L14 (f7_save_L14 F) S (nI s) (nI i) = _
    have h1 : ¬ ((560 : Int32) ≤ nI i) := nI_ge (a := i) (b := 560) (by omega) (by omega)
    unfold b7_save_L14
    rw [if_neg h1, xat_ok (by omega) (by decide), m560, xat_ok (by omega) (by decide), xlet_eq, nI_1, hv i (by omega), cpl]
    exact save_loop hs d F (i + 1) _ (by omega) (by omega) (fun j hj => by rw [xup_o (by decide)]; exact hv j hj)
theorem restore_loop {s : Nat} (hs : s < 2) {v : Nat → Int32} : ∀ (d F i : Nat) (S : xSt), i + d = 560 → d < F → (∀ j, j < 560 → S 35 0 (560 * s + j) = v j) → f7_restore_L30 F S (nI s) (nI i) = f7_restore_J61 (cpl 33 0 v d i S)
  | d, 0, _, _, _, h, _ => absurd h (Nat.not_lt_zero _)
  | 0, F + 1, i, S, e, _, hv => by
    show b7_restore_L30 (f7_restore_L30 F) S (nI s) (nI i) = _
    unfold b7_restore_L30
    have h1 : (560 : Int32) ≤ nI i := nI_le (a := 560) (b := i) (by omega) (by omega)
    rw [if_pos h1]
    rfl
  | d + 1, F + 1, i, S, e, hF, hv => by
    show b7_restore_L30 (f7_restore_L30 F) S (nI s) (nI i) = _
    have h1 : ¬ ((560 : Int32) ≤ nI i) := nI_ge (a := i) (b := 560) (by omega) (by omega)
    unfold b7_restore_L30
    rw [if_neg h1, m560, xat_ok (by omega) (by decide), xat_ok (by omega) (by decide), xlet_eq, nI_1, hv i (by omega), cpl, Nat.zero_add]
    exact restore_loop hs d F (i + 1) _ (by omega) (by omega) (fun j hj => by rw [xup_o (by decide)]; exact hv j hj)
theorem save_ok {T : wS} (hA : AI T) (x : Int32) : OKc (fun S => f6_save S x) (fun S => f7_save S x) T := by
  have hn := hA.1.2.2.2.1
  by_cases c : (0 : Int32) ≤ x ∧ x ≤ 1
  · obtain ⟨s, s1, s2, rfl⟩ := arg_in (a := 0) (b := 1) (by decide) c.1 c.2 (by decide)
    have hs : s < 2 := by omega
    have x0 : ¬ nI s < 0 := Int32.not_lt.mpr c.1
    have x2 : nI s < 2 := nI_lt (a := s) (b := 2) hs (by decide)
    have nar : vp_nar .boolean (1 : Int32) = 1 := by decide
    obtain ⟨v0, v1, v2, v3, v4⟩ := vT_all T hs
    refine ⟨nI (T 0 3), vT T s, vT_AI hA hs, fun S hC => ?_, fun S hM => ?_⟩
    · obtain ⟨S2, e2, g1, g2⟩ := copy_ok S 0 (7 + s)
      have hD := hC.2.2.2.2.2.2.2.2
      obtain ⟨c1, c2, ⟨l, c3, c4, c5⟩, c6, c7, c8, c9, c10⟩ := CI_CJ hC
      obtain ⟨S4, hS4⟩ : ∃ S4, S4 = xup S2 31 0 s 1 := ⟨_, rfl⟩
      have o4 : ∀ t, ¬ t = 31 → S4 t = S2 t := fun t h => by rw [hS4, xup_o h]
      have hg : ∀ o b, ¬ o = 7 + s → CV S o b → CV S4 o b := fun o b ho hc => CV_fr hc (by rw [o4 4 (by decide)]; exact g2 4 o (fun q => ho q.1)) (by rw [o4 22 (by decide)]; exact g2 22 o (fun q => ho q.1)) (by rw [o4 23 (by decide)]; exact g2 23 o (fun q => ho q.1)) (by rw [o4 24 (by decide)]; exact g2 24 o (fun q => ho q.1))
      have hb : ∀ o, BS S o → BS S4 o := fun o hc => BS_fr hc (by rw [o4 10 (by decide)]; exact g2 10 o (by omega)) (by rw [o4 11 (by decide)]; exact g2 11 o (by omega)) (by rw [o4 12 (by decide)]; exact g2 12 o (by omega))
      have hcv : CV S4 (7 + s) (T 0) := CV_fr (g1 _ hn c1) (by rw [o4 4 (by decide)]) (by rw [o4 22 (by decide)]) (by rw [o4 23 (by decide)]) (by rw [o4 24 (by decide)])
      have h0 := hg 0 _ (by omega) c1
      refine ⟨S4, ?_, CJ_CI ?_ ?_, fun t ht => by rw [o4 t (by omega)]; funext o; exact g2 t o (by omega)⟩
      · show f6_save S (nI s) = _
        unfold f6_save
        rw [if_neg x0, if_pos x2, xat_ok hs (by decide), e2, xbV_eq, xat_ok hs (by decide), xlet_eq, nar, ← hS4, h0.2.1]
      · unfold CJ
        rw [v0, v1, v2, v3, o4 1 (by decide), o4 2 (by decide), o4 15 (by decide), g2 1 0 (by omega), g2 2 0 (by omega), g2 15 0 (by omega)]
        refine ⟨h0, c2, ⟨l, c3, c4, fun j hj => ?_⟩, fun i hi => ?_, c7, c8, hb 0 c9, hb 1 c10⟩
        · have := hA.2.1
          rw [v4 j (by omega)]; exact hg _ _ (by omega) (c5 j hj)
        · rw [hS4, xup_s, vT_1, g2 31 0 (by omega)]
          by_cases ci : i = s
          · subst ci
            rw [if_pos rfl, if_pos rfl, vT_s, ← hS4]
            exact ⟨rfl, fun _ => hcv⟩
          · rw [if_neg ci, if_neg (by omega), vT_o T (by omega) (by omega), ← hS4]
            exact ⟨(c6 i hi).1, fun q => hg _ _ (by omega) ((c6 i hi).2 q)⟩
      · rw [v0]
        refine DV_fr hD (fun t ht => ?_)
        have h31 : ¬ t = 31 := fun q => by rw [q] at ht; exact absurd ht (by decide)
        have h4 : ¬ t = 4 := fun q => by rw [q] at ht; exact absurd ht (by decide)
        have h22 : ¬ t = 22 := fun q => by rw [q] at ht; exact absurd ht (by decide)
        have h23 : ¬ t = 23 := fun q => by rw [q] at ht; exact absurd ht (by decide)
        have h24 : ¬ t = 24 := fun q => by rw [q] at ht; exact absurd ht (by decide)
        rw [o4 t h31]
        exact g2 t 0 (by omega)
    · obtain ⟨m1, m2, m3, m4, m5, m6⟩ := hM
      have lp := save_loop hs (v := fun j => S 33 0 j) 560 xFU 0 S rfl (by show 560 < 1000000; omega) (fun j hj => rfl)
      obtain ⟨S2, hS2⟩ : ∃ S2, S2 = cpl 35 (560 * s) (fun j => S 33 0 j) 560 0 S := ⟨_, rfl⟩
      rw [← hS2] at lp
      have o2 : ∀ t, ¬ t = 35 → S2 t = S t := fun t h => by rw [hS2, cpl_o h]
      refine ⟨xup S2 36 0 s 1, ?_, ?_, fun t h7 h32 => by rw [xup_o (by omega), o2 t (by omega)]⟩
      · show f7_save S (nI s) = _
        unfold f7_save
        rw [f7_in_ok, xbI_eq, if_pos c, if_neg (by decide), ← nI_0, lp]
        unfold f7_save_J45
        rw [xat_ok hs (by decide), nar, xlet_eq, xat_lit (v := 3) 3 rfl (by decide) (by decide), xup_o (by decide), o2 33 (by decide), MV0 m1 (i := 3) (by omega) (by omega)]
      · unfold MI
        rw [v0, v1, v2, v3]
        have e7 : (xup S2 36 0 s 1) 7 = S 7 := by rw [xup_o (by decide), o2 7 (by decide)]
        have e37 : (xup S2 36 0 s 1) 37 = S 37 := by rw [xup_o (by decide), o2 37 (by decide)]
        rw [e7, e37]
        refine ⟨?_, m2, fun j hj => ?_, fun i hi => ?_, m5, m6⟩
        · unfold MV at m1 ⊢
          rw [xup_o (by decide), o2 33 (by decide)]; exact m1
        · have := hA.2.1
          rw [v4 j (by omega)]
          have := m3 j hj
          unfold MV at this ⊢
          rw [xup_o (by decide), o2 34 (by decide)]; exact this
        · rw [xup_s, vT_1, o2 36 (by decide)]
          by_cases ci : i = s
          · subst ci
            rw [if_pos rfl, if_pos rfl, vT_s]
            refine ⟨rfl, fun _ => ?_⟩
            intro j hj hc
            rw [xup_o (by decide), hS2, cpl_s, if_pos (by omega), show 560 * i + j - 560 * i = j by omega]
            exact MV0 m1 hj hc
          · rw [if_neg ci, if_neg (by omega), vT_o T (by omega) (by omega)]
            refine ⟨(m4 i hi).1, fun q => ?_⟩
            intro j hj hc
            rw [xup_o (by decide), hS2, cpl_s, if_neg (by omega)]
            exact (m4 i hi).2 q j hj hc
  · refine ⟨-2, T, hA, fun S hC => ⟨S, ?_, hC, Cfr.rf⟩, fun S hM => ⟨S, ?_, hM, Mfr.rf⟩⟩
    · show f6_save S x = _
      unfold f6_save
      by_cases x0 : x < 0
      · rw [if_pos x0]
      · have x2 : ¬ x < 2 := Int32.not_lt.mpr (le_of_nle (n := 1) (by decide) (fun q => c ⟨Int32.not_lt.mp x0, q⟩))
        rw [if_neg x0, if_neg x2]
    · show f7_save S x = _
      unfold f7_save
      rw [f7_in_ok, xbI_eq, if_neg c, if_pos rfl]
theorem restore_ok {T : wS} (hA : AI T) (x : Int32) : OKc (fun S => f6_restore S x) (fun S => f7_restore S x) T := by
  by_cases c : (0 : Int32) ≤ x ∧ x ≤ 1
  · obtain ⟨s, s1, s2, rfl⟩ := arg_in (a := 0) (b := 1) (by decide) c.1 c.2 (by decide)
    have hs : s < 2 := by omega
    have x0 : ¬ nI s < 0 := Int32.not_lt.mpr c.1
    have x2 : nI s < 2 := nI_lt (a := s) (b := 2) hs (by decide)
    obtain ⟨hf, ha⟩ := hA.2.2.2.1 s hs
    by_cases cf : T 1 (2 + s) = 0
    · refine ⟨-5, T, hA, fun S hC => ⟨S, ?_, hC, Cfr.rf⟩, fun S hM => ⟨S, ?_, hM, Mfr.rf⟩⟩
      · show f6_restore S (nI s) = _
        have e31 := (hC.2.2.2.1 s hs).1
        unfold f6_restore
        rw [if_neg x0, if_pos x2, xat_ok hs (by decide), e31, cf, nI_0, if_pos rfl]
      · show f7_restore S (nI s) = _
        have e36 := (hM.2.2.2.1 s hs).1
        unfold f7_restore
        rw [f7_in_ok, xbI_eq, if_pos c, if_neg (by decide), xat_ok hs (by decide), e36, cf, nI_0, if_pos rfl]
    · have h1 : T 1 (2 + s) = 1 := by omega
      have hav := ha h1
      have hne : ¬ nI 1 = 0 := by decide
      refine ⟨nI (T (8 + s) 3), wq (rT T) (T (8 + s)), wq_AI (rT_AI hA) hav, fun S hC => ?_, fun S hM => ?_⟩
      · have e31 := (hC.2.2.2.1 s hs).1
        obtain ⟨S1, e1, g1, g2⟩ := record6 hA (CI_CJ hC)
        obtain ⟨S2, e2, k1, k2⟩ := copy_ok S1 (7 + s) 0
        have hcs := (g1.2.2.2.1 s hs).2 (by rw [rT_1s]; exact h1)
        rw [rT_8] at hcs
        have hJ : CJ S2 (wq (rT T) (T (8 + s))) := CJ_q g1 k2 (k1 _ hav.2.2.2.1 hcs)
        obtain ⟨S3, e3, q1, q2, q3⟩ := CJ_refresh hav hJ
        refine ⟨S3, ?_, q1, g2.tr (Cfr.tr (fun t ht => by funext o; exact k2 t o (by omega)) q2)⟩
        show f6_restore S (nI s) = _
        have h5 := q1.1.2.1
        rw [wq_0] at h5
        unfold f6_restore
        rw [if_neg x0, if_pos x2, xat_ok hs (by decide), e31, h1, if_neg hne, e1, xbV_eq, xat_ok hs (by decide), e2, xbV_eq, e3, xbV_eq, h5]
      · have e36 := (hM.2.2.2.1 s hs).1
        obtain ⟨S1, e1, g1, g2, g3⟩ := record7 hA hM
        have hms := (g1.2.2.2.1 s hs).2 (by rw [rT_1s]; exact h1)
        rw [rT_8] at hms
        have lp := restore_loop hs (v := fun j => S1 35 0 (560 * s + j)) 560 xFU 0 S1 rfl (by show 560 < 1000000; omega) (fun j hj => rfl)
        obtain ⟨S2, hS2⟩ : ∃ S2, S2 = cpl 33 0 (fun j => S1 35 0 (560 * s + j)) 560 0 S1 := ⟨_, rfl⟩
        rw [← hS2] at lp
        have o2 : ∀ t, ¬ t = 33 → S2 t = S1 t := fun t h => by rw [hS2, cpl_o h]
        have hv : MV S2 33 0 (T (8 + s)) := by
          intro i hi hc
          rw [Nat.zero_add, hS2, cpl_s, if_pos (by omega)]
          exact hms i hi hc
        refine ⟨S2, ?_, MI_q g1 (by rw [o2 7 (by decide)]) (by rw [o2 7 (by decide)]) (fun t t1 t2 => by rw [o2 t (by omega)]) hv, fun t h7 h32 => by rw [o2 t (by omega), g2 t (by omega) h7]⟩
        show f7_restore S (nI s) = _
        unfold f7_restore
        rw [f7_in_ok, xbI_eq, if_pos c, if_neg (by decide), xat_ok hs (by decide), e36, h1, if_neg hne, e1, xbV_eq, ← nI_0, lp]
        unfold f7_restore_J61
        rw [xat_lit (v := 3) 3 rfl (by decide) (by decide), MV0 hv (i := 3) (by omega) (by omega)]
  · refine ⟨-2, T, hA, fun S hC => ⟨S, ?_, hC, Cfr.rf⟩, fun S hM => ⟨S, ?_, hM, Mfr.rf⟩⟩
    · show f6_restore S x = _
      unfold f6_restore
      by_cases x0 : x < 0
      · rw [if_pos x0]
      · have x2 : ¬ x < 2 := Int32.not_lt.mpr (le_of_nle (n := 1) (by decide) (fun q => c ⟨Int32.not_lt.mp x0, q⟩))
        rw [if_neg x0, if_neg x2]
    · show f7_restore S x = _
      unfold f7_restore
      rw [f7_in_ok, xbI_eq, if_neg c, if_pos rfl]
