/-! areCodes: all of it -/
theorem plv_no {x p : Nat} (h : ¬ (x = 8 ∨ x = 9)) : plv x p = nI p := if_neg h
theorem wgr_f (w : wS) (full x s : Nat) {f : Nat} (h : f = 4 ∨ f = 5 ∨ f = 6 ∨ f = 7 ∨ f = 8) : (wgr w full x s) f = w f := by
  unfold wgr
  by_cases c : w 0 0 < full
  · rw [if_pos c]
    rcases h with rfl | rfl | rfl | rfl | rfl
    · exact wad_4 _ _ _
    · exact wad_5 _ _ _
    · exact wad_6 _ _ _
    · exact wad_7 _ _ _
    · exact wad_8 _ _ _
  · rw [if_neg c]
/-- the codes of phrases, as the rows hold them -/
theorem AC_ph {S : xSt} {a : Nat → Nat} (hC : AC S a) {w : wS} {n b p e : Nat} {m : Nat → Nat} (hW : WB w) (hE : WE m n w b p) (hk : kp w (wa a)) (h1 : 10 ≤ e) (h2 : e < w 0 0) :
    b + (e - 10) < w 4 0 ∧ (wa a) 6 (b + (e - 10)) + 1 = w 3 e ∧ (wa a) 8 (b + (e - 10)) = w 8 (b + (e - 10)) ∧ w 8 (b + (e - 10)) + w 3 e ≤ n ∧ (w 4 0 < (wa a) 4 0 → S 33 2 (b + (e - 10)) = nI ((wa a) 6 (b + (e - 10))) ∧ S 33 1 (b + (e - 10)) = nI ((wa a) 8 (b + (e - 10)))) := by
  obtain ⟨g1, g2, g3, g4⟩ := hW.2.2 e h1 h2
  obtain ⟨e1, e2, e3, e4, e5, e6⟩ := hE.2.1 e h1 h2
  have hj : b + (e - 10) < w 4 0 := by have := hE.1; omega
  obtain ⟨k1, k2, k3, k4⟩ := hk.2 _ hj
  refine ⟨hj, by omega, k4, e3, fun hK => ?_⟩
  obtain ⟨a1, a2, a3⟩ := hC.2 (b + (e - 10)) (by omega)
  refine ⟨a3, ?_⟩
  rw [a2, k1, e1]
  exact plv_no g2
theorem ac_end {S : xSt} {a : Nat → Nat} (hA : AV a) (hQ : QI S a) (i3 i4 i5 i10 i12 i16 : Int32) {F : Nat} (hF : 0 < F) {p : Nat} (hp : p = a 3) : fW_areCodes_L134 F S (nI ((wa a) 4 0)) (nI (a 3)) i3 i4 i5 (nI p) i10 (nI ((wa a) 0 0)) i12 (nI (bts ((wa a) 7) ((wa a) 4 0))) (nI (clc ((wa a) 5) ((wa a) 4 0))) (nI ((wa a) 9 0)) i16 (nI ((wa a) 4 0)) = some (S, some (.int 1)) := by
  have hc := (AV_wfin hA).2.2.2.1
  obtain ⟨c0, c1, c2, c3, c4, c5, c6, c9, c10, c11⟩ := q_count hA hQ
  cases F with
  | zero => omega
  | succ F =>
    subst hp
    show bW_areCodes_L134 (fW_areCodes_L134 F) S (nI ((wa a) 4 0)) (nI (a 3)) i3 i4 i5 (nI (a 3)) i10 (nI ((wa a) 0 0)) i12 (nI (bts ((wa a) 7) ((wa a) 4 0))) (nI (clc ((wa a) 5) ((wa a) 4 0))) (nI ((wa a) 9 0)) i16 (nI ((wa a) 4 0)) = _
    unfold bW_areCodes_L134
    rw [if_pos (Int32.le_refl _)]
    unfold fW_areCodes_J695
    rw [if_pos rfl, c2, xbI_eq, if_pos rfl, c3, xbI_eq, if_pos rfl, c4, xbI_eq, if_pos rfl, c5, xbI_eq, if_pos rfl, q_ofCode_no hA hQ (Nat.le_refl _) (by omega), xbI_eq, if_pos rfl, x1]
theorem ac_loop {S : xSt} {a : Nat → Nat} (hA : AV a) (hC : AC S a) (hK : (wa a) 4 0 ≤ 64) : ∀ (d F : Nat) (w : wS) (b p : Nat) (c : Bool), w 4 0 + d = (wa a) 4 0 → d < F → WT (mm a) (a 3) (2 ^ a 0) w b p → (c = false → RN (mm a) (a 3) (2 ^ a 0) (a 1) (a 2) (wa a) w p) → (c = true → p < a 3 ∧ wcl w (2 ^ a 0) (a 1) (a 2) = true ∧ RN (mm a) (a 3) (2 ^ a 0) (a 1) (a 2) (wa a) (wu (wcd w 8 0 0) 0 0 10) p) →
    fW_areCodes_L134 F S (nI ((wa a) 4 0)) (nI (a 3)) (nI (2 ^ a 0)) (nI (a 1)) (nI (a 2)) (nI p) (nI b) (nI (w 0 0)) (nI (w 10 0)) (nI (bts (w 7) (w 4 0))) (nI (clc (w 5) (w 4 0))) (nI (w 9 0)) (if c = true then 1 else 0) (nI (w 4 0)) = some (S, some (.int 1))
  | d, 0, _, _, _, _, _, h, _, _, _ => absurd h (Nat.not_lt_zero _)
  | 0, F + 1, w, b, p, c, e, _, hT, hR, hc => by
    cases c with
    | false => have := (RN_kp (hR rfl)).2; omega
    | true => have := (tr_clear (hc rfl).2.2).1; omega
  | d + 1, F + 1, w, b, p, true, e, hF, hT, hR, hc => by
    obtain ⟨hp, hcl, hr⟩ := hc rfl
    obtain ⟨t1, t2, t3, t4, t5⟩ := tr_clear hr
    have hQ := hC.1
    obtain ⟨a0, a1, a2⟩ := hC.2 (w 4 0) t1
    have hT' := wt_clear (AV_pow hA) hT hcl
    have e0 : (wu (wcd w 8 0 0) 0 0 10) 0 0 = 10 := by rw [wu_s, if_pos rfl]
    have eo : ∀ f, ¬ f = 0 → (wu (wcd w 8 0 0) 0 0 10) f = (wcd w 8 0 0) f := fun f h => wu_o h
    have ih := ac_loop hA hC hK d F (wu (wcd w 8 0 0) 0 0 10) (w 4 0 + 1) p false (by rw [eo 4 (by decide), wcd_4]; omega) (by omega) hT' (fun _ => hr) (fun h => by cases h)
    rw [e0, eo 4 (by decide), eo 5 (by decide), eo 7 (by decide), eo 9 (by decide), eo 10 (by decide), wcd_4, wcd_9, wcd_10, wcd_bts, wcd_clc] at ih
    show bW_areCodes_L134 (fW_areCodes_L134 F) S (nI ((wa a) 4 0)) (nI (a 3)) (nI (2 ^ a 0)) (nI (a 1)) (nI (a 2)) (nI p) (nI b) (nI (w 0 0)) (nI (w 10 0)) (nI (bts (w 7) (w 4 0))) (nI (clc (w 5) (w 4 0))) (nI (w 9 0)) 1 (nI (w 4 0)) = _
    rw [ac_head hA hQ t1 t4 (by have := hT.1.1; omega) hT.1.2.1, if_neg (by decide), ac_special hK t1 a0 (by rw [a1, t2]; exact plv_8 _) (by rw [a2, t3]; rfl) (Or.inl ⟨rfl, t2⟩), if_neg (by decide), nI_add, nI_1]
    rw [if_pos rfl] at ih
    exact ih
  | d + 1, F + 1, w, b, p, false, e, hF, hT, hR, hc => by
    have hr := hR rfl
    have hQ := hC.1
    have hfl := AV_pow hA
    have hn := hA.2.2.2.1
    have hm : ∀ j, j < a 3 → mm a j < 8 := fun j hj => hA.2.2.2.2.1 j hj
    have hWL := AV_len hA
    by_cases hp : p < a 3
    · obtain ⟨x, q, ⟨l1, l2, l3, l4, l5, l7, l6⟩, ⟨g0, g5, g6, g7, g8⟩, hlast, hgrow⟩ := tr_code hfl hn hm hT hr hp
      obtain ⟨hW, hef, hI, hpn, hE, hb, hg⟩ := id hT
      have hkp := (RN_kp hr).1
      obtain ⟨a0, a1, a2⟩ := hC.2 (w 4 0) g0
      rw [g5] at a0
      rw [g5, g8, plv_no l2] at a1
      rw [g6] at a2
      have h10 := hW.1
      have hbE := hE.1
      -- the search for a longer one
      have hlong := ac_long (k134 := fW_areCodes_L134 F) hA hQ (ln := (wa a) 6) (pl := (wa a) 8) (b := b) (k := w 4 0) (E := w 0 0) (p := p) (fun j hj => ⟨(hC.2 j (by omega)).2.2, hWL j (by omega)⟩) (fun e' h1 h2 => ((AC_ph hC hW hE hkp h1 h2).2.2.2.2 g0).2) (by omega) hbE hW.2.1 (by omega) (fun e' h1 h2 c1 c2 => by
          obtain ⟨f1, f2, f3, f4, f5⟩ := AC_ph hC hW hE hkp h1 h2
          rw [g6, f2] at c1
          rw [f2] at c2 ⊢
          rw [f3]
          refine ⟨f4, fun z => ?_⟩
          exact lm_long hW hE l1 l2 l5 l3 l7 l6 h1 h2 c1 c2 ((TX_ph h1).mpr z)) (nI ((wa a) 4 0)) (nI (2 ^ a 0)) (nI (a 1)) (nI (a 2)) (nI (w 10 0)) (nI (bts (w 7) (w 4 0)) + nI (wid (w 0 0))) (nI (clc (w 5) (w 4 0))) (nI (w 9 0)) 0 (w 0 0 - 10) xFU 10 (by omega) (Nat.le_refl _) (by have := hW.2.1; show w 0 0 - 10 < 1000000; omega)
      have hbody := ac_body (k134 := fW_areCodes_L134 F) (pl := fun e' => (wa a) 8 (b + (e' - 10))) (ln := fun e' => (wa a) 6 (b + (e' - 10))) (E := w 0 0) (b := b) hA hQ (by omega) a0 a1 a2 hW.2.1 l1 l2 l3 l4 (fun c => by
          rw [szf_1 c] at l5
          exact ⟨by omega, (TX_1 c).mp l7⟩) (fun c => by
          obtain ⟨f1, f2, f3, f4, f5⟩ := AC_ph hC hW hE hkp c l1
          have hs := (szf_pos hW x l1 l2).2 c
          rw [szf_ph c] at l5
          rw [TX_ph c] at l7
          refine ⟨by rw [szf_ph c] at hs; omega, by omega, (f5 g0).1, by show (wa a) 6 (b + (x - 10)) + 1 = q - p; omega, (f5 g0).2, by show (wa a) 8 (b + (x - 10)) + (q - p) ≤ a 3; omega, fun t ht => ?_⟩
          show mm a (p + t) = mm a ((wa a) 8 (b + (x - 10)) + t)
          rw [f3]
          exact l7 t (by omega)) (nI ((wa a) 4 0)) (nI (2 ^ a 0)) (nI (a 1)) (nI (a 2)) (nI (w 10 0)) (nI (bts (w 7) (w 4 0))) (nI (clc (w 5) (w 4 0))) (nI (w 9 0))
      show bW_areCodes_L134 (fW_areCodes_L134 F) S (nI ((wa a) 4 0)) (nI (a 3)) (nI (2 ^ a 0)) (nI (a 1)) (nI (a 2)) (nI p) (nI b) (nI (w 0 0)) (nI (w 10 0)) (nI (bts (w 7) (w 4 0))) (nI (clc (w 5) (w 4 0))) (nI (w 9 0)) 0 (nI (w 4 0)) = _
      rw [ac_head hA hQ g0 g7 (by omega) hW.2.1, hbody]
      unfold fW_areCodes_J426
      rw [show (10 : Int32) = nI 10 from rfl, hlong, nI_add]
      by_cases cq : q < a 3
      · obtain ⟨hT', hr1, hr2⟩ := hgrow cq
        obtain ⟨w', hw'⟩ : ∃ w', w' = wgr (wcd w x p (q - p)) (2 ^ a 0) x (mm a q) := ⟨_, rfl⟩
        have e4 : w' 4 0 = w 4 0 + 1 := by rw [hw', wgr_f _ _ _ _ (Or.inl rfl), wcd_4]
        have e7 : bts (w' 7) (w' 4 0) = bts (w 7) (w 4 0) + wid (w 0 0) := by rw [e4, hw', wgr_f _ _ _ _ (by decide), wcd_bts]
        have e5 : clc (w' 5) (w' 4 0) = clc (w 5) (w 4 0) := by rw [e4, hw', wgr_f _ _ _ _ (by decide), wcd_clc, if_neg (fun z => l2 (Or.inl z))]; rfl
        have hkp' : kp w' (wa a) := by
          by_cases c : wcl w' (2 ^ a 0) (a 1) (a 2) = true
          · rw [hw'] at c ⊢
            exact (tr_clear (hr1 c)).2.2.2.2
          · rw [hw'] at c ⊢
            exact (RN_kp (hr2 c)).1
        have hgr := ac_grow (S := S) (k134 := fW_areCodes_L134 F) (m := mm a) (w := w) (n := a 3) (full := 2 ^ a 0) (po := a 1) (wi := a 2) (p := p) (q := q) (x := x) (by omega) (fun j hj => by
            rw [← hw', ← (hkp'.2 j (by omega)).2.1]
            exact ⟨(hC.2 j (by omega)).2.2, hWL j (by omega)⟩) l3 cq hn l5 hI.2.2 hI.2.1 hef hfl.2 hA.2.2.1.2 hA.2.1 (nI ((wa a) 4 0)) (nI b) (nI (bts (w 7) (w 4 0) + wid (w 0 0))) (nI (clc (w 5) (w 4 0))) 0
        rw [hgr, ← hw']
        have ih := ac_loop hA hC hK d F w' b q (wcl w' (2 ^ a 0) (a 1) (a 2)) (by omega) (by omega) (by rw [hw']; exact hT') (fun c => by
            rw [hw'] at c ⊢
            exact hr2 (by rw [c]; decide)) (fun c => by
            rw [hw'] at c ⊢
            exact ⟨cq, c, hr1 c⟩)
        rw [e7, e5, e4] at ih
        exact ih
      · have eq : q = a 3 := by omega
        obtain ⟨hT', hr'⟩ := hlast eq
        rw [ac_last (by omega) a2 (by omega) (by omega) (by omega)]
        have ih := ac_loop hA hC hK d F (wcd w x p (a 3 - p)) b (a 3) false (by rw [wcd_4]; omega) (by omega) hT' (fun _ => hr') (fun h => by cases h)
        rw [wcd_0, wcd_4, wcd_9, wcd_10, wcd_bts, wcd_clc, if_neg (fun z => l2 (Or.inl z))] at ih
        rw [eq]
        exact ih
    · have ep : p = a 3 := by have := hT.2.2.2.1; omega
      have hwf := RN_end hr (by omega)
      have h4 : (wa a) 4 0 = w 4 0 + 1 := by rw [hwf, wcd_4]
      have g7 : (wa a) 7 (w 4 0) = w 0 0 := by rw [hwf, wcd_7, if_pos rfl]
      have g5 : (wa a) 5 (w 4 0) = 9 := by rw [hwf, wcd_5, if_pos rfl]
      have g6 : (wa a) 6 (w 4 0) = 0 := by rw [hwf, wcd_6, if_pos rfl]
      obtain ⟨a0, a1, a2⟩ := hC.2 (w 4 0) (by omega)
      show bW_areCodes_L134 (fW_areCodes_L134 F) S (nI ((wa a) 4 0)) (nI (a 3)) (nI (2 ^ a 0)) (nI (a 1)) (nI (a 2)) (nI p) (nI b) (nI (w 0 0)) (nI (w 10 0)) (nI (bts (w 7) (w 4 0))) (nI (clc (w 5) (w 4 0))) (nI (w 9 0)) 0 (nI (w 4 0)) = _
      rw [ac_head hA hQ (by omega) g7 (by have := hT.1.1; omega) hT.1.2.1, if_pos rfl, if_pos (by rw [ep]), ac_special hK (by omega) a0 (by rw [a1, g5]; exact plv_9 _) (by rw [a2, g6]; rfl) (Or.inr ⟨rfl, g5, by omega⟩), if_pos rfl, nI_add, Int32.add_zero]
      have hend := ac_end hA hQ (nI (2 ^ a 0)) (nI (a 1)) (nI (a 2)) (nI (w 4 0 + 1)) (nI (w 10 0)) 0 (F := F) (by omega) ep
      rw [show bts ((wa a) 7) ((wa a) 4 0) = bts (w 7) (w 4 0) + wid (w 0 0) by rw [hwf, wcd_4, wcd_bts], show clc ((wa a) 5) ((wa a) 4 0) = clc (w 5) (w 4 0) by rw [hwf, wcd_4, wcd_clc, if_neg (by decide)]; rfl, show (wa a) 0 0 = w 0 0 by rw [hwf, wcd_0], show (wa a) 9 0 = w 9 0 by rw [hwf, wcd_9], h4] at hend
      rw [h4]
      exact hend
