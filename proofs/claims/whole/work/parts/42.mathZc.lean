/-! cheapest -/
theorem CI_sg {S : xSt} {T : wS} {k : Nat} {v : Int32} (h : CI S T) (hk : T 0 3 ≤ k) : CI (xup S 23 0 k v) T := by
  have hc := CI_CJ h
  obtain ⟨c1, c2, ⟨l, c3, c4, c5⟩, c6, c7, c8, c9, c10⟩ := hc
  have hD := h.2.2.2.2.2.2.2.2
  have ho : ∀ t, ¬ t = 23 → xup S 23 0 k v t = S t := fun t h => xup_o h
  have hi : ∀ o, ¬ o = 0 → xup S 23 0 k v 23 o = S 23 o := fun o h => xup_i h
  have hg : ∀ o b, ¬ o = 0 → CV S o b → CV (xup S 23 0 k v) o b := fun o b q hc => CV_fr hc (by rw [ho 4 (by decide)]) (by rw [ho 22 (by decide)]) (hi o q) (by rw [ho 24 (by decide)])
  have hb : ∀ o, BS S o → BS (xup S 23 0 k v) o := fun o hc => BS_fr hc (by rw [ho 10 (by decide)]) (by rw [ho 11 (by decide)]) (by rw [ho 12 (by decide)])
  refine CJ_CI ?_ (DV_fr hD (fun t ht => by rw [ho t (fun q => by rw [q] at ht; exact absurd ht (by decide))]))
  unfold CJ
  simp only [ho 1 (by decide), ho 31 (by decide), ho 2 (by decide), ho 15 (by decide)]
  refine ⟨?_, c2, ⟨l, c3, c4, fun j hj => hg _ _ (by omega) (c5 j hj)⟩, fun i hi => ⟨(c6 i hi).1, fun q => hg _ _ (by omega) ((c6 i hi).2 q)⟩, c7, c8, hb 0 c9, hb 1 c10⟩
  obtain ⟨v1, v2, v3, v4⟩ := c1
  unfold CV
  rw [ho 22 (by decide), ho 4 (by decide), ho 24 (by decide)]
  refine ⟨v1, v2, fun j hj => ?_, v4⟩
  rw [xup_s, if_neg (by omega)]
  exact v3 j hj
def cU (T : wS) (k : Nat) : Nat → Nat := fun i => if i = 3 then T 0 3 + 1 else if i = 10 + T 0 3 then k else T 0 i
theorem cU_3 (T : wS) (k : Nat) : cU T k 3 = T 0 3 + 1 := rfl
theorem cU_o {T : wS} {k i : Nat} (h3 : ¬ i = 3) (h : ¬ i = 10 + T 0 3) : cU T k i = T 0 i := by
  show (if i = 3 then T 0 3 + 1 else if i = 10 + T 0 3 then k else T 0 i) = _
  rw [if_neg h3, if_neg h]
theorem cU_s (T : wS) (k : Nat) : cU T k (10 + T 0 3) = k := by
  show (if 10 + T 0 3 = 3 then T 0 3 + 1 else if 10 + T 0 3 = 10 + T 0 3 then k else T 0 (10 + T 0 3)) = _
  rw [if_neg (by omega), if_pos rfl]
theorem cU_AV {T : wS} (hA : AV (T 0)) (hn : T 0 3 < 240) {k : Nat} (hk : k < 8) : AV (cU T k) := by
  obtain ⟨a1, a2, a3, a4, a5, a6, a7⟩ := hA
  unfold AV
  rw [cU_3, cU_o (i := 0) (by omega) (by omega), cU_o (i := 1) (by omega) (by omega), cU_o (i := 2) (by omega) (by omega)]
  refine ⟨a1, a2, a3, by omega, fun j hj => ?_, fun k hk => ?_, fun k h1 h2 => ?_⟩
  · by_cases c : j = T 0 3
    · rw [c, cU_s]; exact hk
    · rw [cU_o (by omega) (by omega)]; exact a5 j (by omega)
  · rw [cU_o (by omega) (by omega)]; exact a6 k hk
  · rw [cU_o (by omega) (by omega)]; exact a7 k h1 h2
theorem cU_wa {T : wS} {k : Nat} : wa (cU T k) = wfin (mm (cU T k)) (T 0 3 + 1) (2 ^ T 0 0) (T 0 1) (T 0 2) := by
  unfold wa
  rw [cU_3, cU_o (i := 0) (by omega) (by omega), cU_o (i := 1) (by omega) (by omega), cU_o (i := 2) (by omega) (by omega)]
def cf (T : wS) (k : Nat) : Nat := tb (mm (cU T k)) (T 0 3 + 1) (T 0 0) (T 0 1) (T 0 2)
theorem cU_lt {T : wS} (hA : AI T) {k : Nat} (hk : k < 8) {j : Nat} (hj : j < T 0 3 + 1) : mm (cU T k) j < 8 := by
  show cU T k (10 + j) < 8
  by_cases c : j = T 0 3
  · rw [c, cU_s]; exact hk
  · rw [cU_o (by omega) (by omega)]; exact hA.1.2.2.2.2.1 j (by omega)
theorem cf_le {T : wS} (hA : AI T) (hn : T 0 3 < 240) {k : Nat} (hk : k < 8) : cf T k ≤ 2529 :=
  tb_le hA.1.1.1 hA.1.1.2 (by omega) (fun j hj => cU_lt hA hk hj)
def cok (s : Nat × Nat) : Prop := s.1 ≤ 8 ∧ s.2 < 3000
theorem cst_ok {f : Nat → Nat} {k : Nat} {s : Nat × Nat} (hk : k < 8) (hf : f k < 3000) (hs : cok s) : cok (tst f k s) := by
  unfold tst
  by_cases c : s.1 = 0 ∨ f k < s.2
  · rw [if_pos c]; exact ⟨by show k + 1 ≤ 8; omega, hf⟩
  · rw [if_neg c]; exact hs
theorem up_Cfr {S : xSt} {t o i : Nat} {v : Int32} (ht : ¬ (t = 7 ∨ 33 ≤ t)) : Cfr S (xup S t o i v) := fun t' h => xup_o (fun q => ht (by rw [← q]; exact h))
theorem up_Mfr {S : xSt} {t o i : Nat} {v : Int32} (ht : t = 7 ∨ 33 ≤ t) : Mfr S (xup S t o i v) := fun t' h7 h32 => xup_o (fun q => by omega)
theorem chp6 {T : wS} (hA : AI T) (hn : T 0 3 < 240) (i1 : Int32) : ∀ (d F k : Nat) (S : xSt) (s : Nat × Nat), k + d = 8 → d < F → CI S T → cok s →
    ∃ S', f6_cheapest_L36 F S i1 (t1 s) (t2 s) (nI k) = f6_cheapest_J111 S' i1 (t1 (tsf (cf T) d k s)) (t2 (tsf (cf T) d k s)) ∧ CI S' T ∧ Cfr S S'
  | d, 0, _, _, _, _, h, _, _ => absurd h (Nat.not_lt_zero _)
  | 0, F + 1, k, S, s, e, _, hC, hs => by
    refine ⟨S, ?_, hC, Cfr.rf⟩
    show b6_cheapest_L36 (f6_cheapest_L36 F) S i1 (t1 s) (t2 s) (nI k) = _
    unfold b6_cheapest_L36
    have h8 : (8 : Int32) ≤ nI k := nI_le (a := 8) (b := k) (by omega) (by omega)
    rw [if_pos h8]
    rfl
  | d + 1, F + 1, k, S, s, e, hF, hC, hs => by
    have hle := cf_le hA hn (k := k) (by omega)
    have hC2 := CI_sg (v := nI k) hC (Nat.le_refl _)
    have hm : ∀ j, j < T 0 3 + 1 → (xup S 23 0 (T 0 3) (nI k)) 23 0 j = nI (mm (cU T k) j) ∧ mm (cU T k) j < 8 := by
      intro j hj
      refine ⟨?_, cU_lt hA (by omega) hj⟩
      show _ = nI (cU T k (10 + j))
      rw [xup_s]
      by_cases c : j = T 0 3
      · rw [if_pos c, c, cU_s]
      · rw [if_neg c, cU_o (by omega) (by omega)]; exact hC.1.2.2.1 j (by omega)
    obtain ⟨S1, e1, g1, g2⟩ := trial_ok (S := xup S 23 0 (T 0 3) (nI k)) (T := T) (m := mm (cU T k)) (n := T 0 3 + 1) (wd := T 0 0) (po := T 0 1) hA (hC2.1.1 2 (by decide)) hC2.2.2.2.2.2.2.2.1 hA.1.1.1 hA.1.1.2 hA.1.2.1 (by omega) hm
    obtain ⟨S2, e2, k1, k2⟩ := chp6 hA hn i1 d F (k + 1) S1 (tst (cf T) k s) (by omega) (by omega) (CI_tr hC2 g2 g1) (cst_ok (by omega) (by omega) hs)
    refine ⟨S2, ?_, k1, (up_Cfr (by decide)).tr ((PW_Cfr g2).tr k2)⟩
    have e1' : f6_trialBits (xup S 23 0 (T 0 3) (nI k)) (nI (T 0 3 + 1)) (nI (T 0 0)) (nI (T 0 1)) = some (S1, some (.int (nI (cf T k)))) := e1
    rw [tsf, ← e2]
    show b6_cheapest_L36 (f6_cheapest_L36 F) S i1 (t1 s) (t2 s) (nI k) = _
    have h8 : ¬ ((8 : Int32) ≤ nI k) := nI_ge (a := k) (b := 8) (by omega) (by omega)
    unfold b6_cheapest_L36 f6_cheapest_J105
    rw [if_neg h8, hC.1.2.1, xat_ok (by omega) (by decide), xlet_eq, xat_lit (v := 0) 0 rfl (by decide) (by decide), xat_lit (v := 1) 1 rfl (by decide) (by decide), hC2.1.2.1, hC2.1.1 0 (by decide), hC2.1.1 1 (by decide), nI_1 (T 0 3), e1', xbI_eq, nI_1 k]
    unfold tst
    by_cases c : s.1 = 0 ∨ cf T k < s.2
    · have hn : ¬ (t2 s ≤ nI (cf T k)) := by
        unfold t2
        by_cases c0 : s.1 = 0
        · rw [if_pos c0]; exact nI_ge (a := cf T k) (b := 1073741824) (by omega) (by decide)
        · rw [if_neg c0]; exact nI_ge (c.resolve_left c0) (by have := hs.2; omega)
      rw [if_neg hn, if_pos c]
      rfl
    · have hn : t2 s ≤ nI (cf T k) := by
        unfold t2
        rw [if_neg (fun q => c (Or.inl q))]
        exact nI_le (by omega) (by omega)
      rw [if_pos hn, if_neg c]
theorem wq_wq (T : wS) (a b : Nat → Nat) : wq (wq T a) b = wq T b := by
  funext f
  by_cases c : f = 0
  · rw [c, wq_0, wq_0]
  · rw [wq_o c, wq_o c, wq_o c]
theorem wq_id (T : wS) : wq T (T 0) = T := by
  funext f
  by_cases c : f = 0
  · rw [c, wq_0]
  · rw [wq_o c]
theorem cM_next {S : xSt} {T : wS} {k q : Nat} (hn : T 0 3 < 240) (h : MI S (wq T (cU T k))) : MI (xup S 33 0 (10 + T 0 3) (nI q)) (wq T (cU T q)) := by
  have hv := h.1
  rw [← wq_wq T (cU T k) (cU T q)]
  refine MI_q (T := wq T (cU T k)) (a := cU T q) h (by rw [xup_o (by decide)]) (by rw [xup_o (by decide)]) (fun t h1 h2 => by rw [xup_o (by omega)]) ?_
  intro i hi hc
  rw [Nat.zero_add, xup_s]
  by_cases c : i = 10 + T 0 3
  · rw [if_pos c, c, cU_s]
  · rw [if_neg c]
    have h1 := MV0 hv hi (by rw [wq_0, cU_3]; rw [cU_3] at hc; omega)
    rw [h1, wq_0]
    by_cases c3 : i = 3
    · rw [c3]; rfl
    · rw [cU_o c3 c, cU_o c3 c]
theorem cM_first {S : xSt} {T : wS} {q : Nat} (hn : T 0 3 < 240) (h : MI S T) : MI (xup (xup S 33 0 3 (nI (T 0 3 + 1))) 33 0 (10 + T 0 3) (nI q)) (wq T (cU T q)) := by
  have hv := h.1
  refine MI_q (T := T) (a := cU T q) h (by rw [xup_o (by decide), xup_o (by decide)]) (by rw [xup_o (by decide), xup_o (by decide)]) (fun t h1 h2 => by rw [xup_o (by omega), xup_o (by omega)]) ?_
  intro i hi hc
  rw [Nat.zero_add, xup_s]
  by_cases c : i = 10 + T 0 3
  · rw [if_pos c, c, cU_s]
  · rw [if_neg c, xup_s]
    by_cases c3 : i = 3
    · rw [if_pos c3, c3, cU_3]
    · rw [if_neg c3, cU_o c3 c]
      exact MV0 hv hi (by rw [cU_3] at hc; omega)
theorem cM_last {S : xSt} {T : wS} {v : Int32} (hn : T 0 3 < 240) (h : MI (xup S 33 0 (10 + T 0 3) (nI 0)) (wq T (cU T 0))) : S 33 0 3 = nI (T 0 3 + 1) ∧ MI (xup (xup S 33 0 3 (nI (T 0 3))) 33 0 (10 + T 0 3) v) T := by
  have hv := h.1
  have ev : ∀ i, i < 560 → ¬ i = 10 + T 0 3 → (i < 4 ∨ (10 ≤ i ∧ i < 10 + (T 0 3 + 1)) ∨ 250 ≤ i) → S 33 0 i = nI (cU T 0 i) := by
    intro i hi h1 h2
    have := MV0 hv hi h2
    rw [xup_s, if_neg h1] at this
    exact this
  refine ⟨ev 3 (by decide) (by omega) (by omega), ?_⟩
  have key : MI (xup (xup S 33 0 3 (nI (T 0 3))) 33 0 (10 + T 0 3) v) (wq (wq T (cU T 0)) (T 0)) := ?_
  · rw [wq_wq, wq_id] at key
    exact key
  refine MI_q (T := wq T (cU T 0)) (a := T 0) h (by rw [xup_o (by decide), xup_o (by decide), xup_o (by decide)]) (by rw [xup_o (by decide), xup_o (by decide), xup_o (by decide)]) (fun t h1 h2 => by rw [xup_o (by omega), xup_o (by omega), xup_o (by omega)]) ?_
  intro i hi hc
  rw [Nat.zero_add, xup_s, if_neg (by omega), xup_s]
  by_cases c3 : i = 3
  · rw [if_pos c3, c3]
  · rw [if_neg c3, ev i hi (by omega) (by omega), cU_o c3 (by omega)]
theorem chp7 {T : wS} (hA : AI T) (hn : T 0 3 < 240) (i1 i3 : Int32) : ∀ (d F k : Nat) (S : xSt) (s : Nat × Nat), k + d = 8 → d < F → (∀ q, MI (xup S 33 0 (10 + T 0 3) (nI q)) (wq T (cU T q))) → cok s →
    ∃ S', f7_cheapest_L64 F S i1 (nI (10 + T 0 3)) i3 (u1 s) (u2 s) (nI k) = f7_cheapest_J113 S' i1 (nI (10 + T 0 3)) i3 (u1 (tsf (cf T) d k s)) (u2 (tsf (cf T) d k s)) ∧ (∀ q, MI (xup S' 33 0 (10 + T 0 3) (nI q)) (wq T (cU T q))) ∧ Mfr S S'
  | d, 0, _, _, _, _, h, _, _ => absurd h (Nat.not_lt_zero _)
  | 0, F + 1, k, S, s, e, _, hP, hs => by
    refine ⟨S, ?_, hP, Mfr.rf⟩
    show b7_cheapest_L64 (f7_cheapest_L64 F) S i1 (nI (10 + T 0 3)) i3 (u1 s) (u2 s) (nI k) = _
    unfold b7_cheapest_L64
    have h8 : (8 : Int32) ≤ nI k := nI_le (a := 8) (b := k) (by omega) (by omega)
    rw [if_pos h8]
    rfl
  | d + 1, F + 1, k, S, s, e, hF, hP, hs => by
    have hle := cf_le hA hn (k := k) (by omega)
    have hav := cU_AV hA.1 hn (k := k) (by omega)
    obtain ⟨S3, e3, g1, g2, g3, g4⟩ := now_ok (S := xup S 33 0 (10 + T 0 3) (nI k)) (T := wq T (cU T k)) hav (hP k)
    have g2' : MC S3 (wa (cU T k)) := g2
    have hb : f7_bits S3 = some (S3, some (.int (nI (cf T k)))) := by
      have := f7_bits_ok g2' (by have := (AV_wfin hav).2.2.2.1; omega)
      rw [this, cU_wa]
      rfl
    obtain ⟨S2, e2, k1, k2⟩ := chp7 hA hn i1 i3 d F (k + 1) S3 (tst (cf T) k s) (by omega) (by omega) (fun q => cM_next hn g3) (cst_ok (by omega) (by omega) hs)
    refine ⟨S2, ?_, k1, (up_Mfr (by decide)).tr ((FM_Mfr g4).tr k2)⟩
    rw [tsf, ← e2]
    show b7_cheapest_L64 (f7_cheapest_L64 F) S i1 (nI (10 + T 0 3)) i3 (u1 s) (u2 s) (nI k) = _
    have h8 : ¬ ((8 : Int32) ≤ nI k) := nI_ge (a := k) (b := 8) (by omega) (by omega)
    have h97 : f7_cheapest_J97 (f7_cheapest_L64 F) S3 i1 (nI (10 + T 0 3)) i3 (nI k) = f7_cheapest_L64 F S3 i1 (nI (10 + T 0 3)) i3 (nI k) (nI (cf T k)) (nI (k + 1)) := by
      unfold f7_cheapest_J97 f7_cheapest_J107
      rw [hb, xbI_eq, nI_1]
    unfold b7_cheapest_L64
    rw [if_neg h8, xat_ok (by omega) (by decide), xlet_eq, e3, xbV_eq, hb, xbI_eq, h97]
    unfold f7_cheapest_J107 tst
    rw [nI_1]
    by_cases c0 : s.1 = 0
    · have hm : u1 s < 0 := by unfold u1; rw [if_pos c0]; decide
      rw [if_pos hm, if_pos (Or.inl c0)]
      rfl
    · have hm : ¬ u1 s < 0 := by unfold u1; rw [if_neg c0]; exact nI_nlt (a := s.1 - 1) (b := 0) (Nat.zero_le _) (by have := hs.1; omega)
      rw [if_neg hm]
      by_cases c : cf T k < s.2
      · have hn : ¬ (u2 s ≤ nI (cf T k)) := by unfold u2; rw [if_neg c0]; exact nI_ge c (by have := hs.2; omega)
        rw [if_neg hn, if_pos (Or.inr c)]
        rfl
      · have hn : u2 s ≤ nI (cf T k) := by unfold u2; rw [if_neg c0]; exact nI_le (by omega) (by omega)
        rw [if_pos hn, if_neg (fun q => q.elim c0 c)]
theorem cheapest_ok {T : wS} (hA : AI T) (x : Int32) : OKc (fun S => f6_cheapest S x) (fun S => f7_cheapest S x) T := by
  have h3 := hA.1.2.2.2.1
  by_cases c : (0 : Int32) ≤ x ∧ x ≤ 1
  · have ex := u01 c
    have hJ : ∀ S, f6_cheapest S x = f6_cheapest_J12 S x := by
      intro S
      unfold f6_cheapest
      rcases ex with rfl | rfl
      · rw [if_pos rfl]
      · rw [if_neg (by decide), if_pos rfl]
    by_cases hn : T 0 3 < 240
    · have h0 : cok (0, 0) := ⟨by decide, by decide⟩
      have hpos : ¬ (tsf (cf T) 8 0 (0, 0)).1 = 0 := tsf_pos (cf T) 7 0 (0, 0)
      have hO6 := fun (S : xSt) (hC : CI S T) => chp6 hA hn x 8 xFU 0 S (0, 0) rfl (by show 8 < 1000000; omega) hC h0
      have hO7 := fun (S : xSt) (i3 : Int32) (hP : ∀ q, MI (xup S 33 0 (10 + T 0 3) (nI q)) (wq T (cU T q))) => chp7 hA hn x i3 8 xFU 0 S (0, 0) rfl (by show 8 < 1000000; omega) hP h0
      generalize tsf (cf T) 8 0 (0, 0) = r at *
      have a1 : t1 (0, 0) = 0 := rfl
      have a2 : t2 (0, 0) = 1073741824 := rfl
      have b1 : u1 (0, 0) = -6 := rfl
      have b2 : u2 (0, 0) = 0 := rfl
      refine ⟨if x = 0 then nI (r.1 - 1) else nI r.2, T, hA, fun S hC => ?_, fun S hM => ?_⟩
      · obtain ⟨S1, e1, g1, g2⟩ := hO6 S hC
        refine ⟨S1, ?_, g1, g2⟩
        show f6_cheapest S x = _
        rw [a1, a2, nI_0] at e1
        have hl : nI (T 0 3) < 240 := nI_lt (a := T 0 3) (b := 240) hn (by decide)
        rw [hJ]
        unfold f6_cheapest_J12
        rw [hC.1.2.1, if_pos hl, e1]
        unfold t1 t2 f6_cheapest_J111
        rw [if_neg hpos, if_neg hpos]
        by_cases x0 : x = 0
        · rw [if_pos x0, if_pos x0]
        · rw [if_neg x0, if_neg x0]
      · obtain ⟨S1, e1, k1, k2⟩ := hO7 (xup S 33 0 3 (nI (T 0 3 + 1))) (S 33 0 (10 + T 0 3)) (fun q => cM_first hn hM)
        obtain ⟨z1, z2⟩ := cM_last (v := S 33 0 (10 + T 0 3)) hn (k1 0)
        refine ⟨_, ?_, z2, ((up_Mfr (by decide)).tr k2).tr ((up_Mfr (by decide)).tr (up_Mfr (by decide)))⟩
        show f7_cheapest S x = _
        rw [b1, b2, nI_0] at e1
        have hl : ¬ (nI (T 0 3) = 240) := fun q => by
          have := nI_inj (b := 240) (by omega) (by decide) q
          omega
        have h10 : (10 : Int32) + nI (T 0 3) = nI (10 + T 0 3) := nI_add 10 (T 0 3)
        have hsub : nI (T 0 3 + 1) - 1 = nI (T 0 3) := nI_pred _
        unfold f7_cheapest
        rw [f7_in_ok, xbI_eq, if_pos c, if_neg (by decide), xat_lit (v := 3) 3 rfl (by decide) (by decide), MV0 hM.1 (i := 3) (by omega) (by omega), if_neg hl, xat_lit (v := 3) 3 rfl (by decide) (by decide), MV0 hM.1 (i := 3) (by omega) (by omega), h10, xat_ok (by omega) (by decide), xat_lit (v := 3) 3 rfl (by decide) (by decide), xat_lit (v := 3) 3 rfl (by decide) (by decide), MV0 hM.1 (i := 3) (by omega) (by omega), xlet_eq, nI_1, e1]
        unfold u1 u2 f7_cheapest_J113
        rw [if_neg hpos, if_neg hpos, xat_lit (v := 3) 3 rfl (by decide) (by decide), xat_lit (v := 3) 3 rfl (by decide) (by decide), xlet_eq, z1, hsub, xat_ok (by omega) (by decide), xlet_eq]
        by_cases x0 : x = 0
        · rw [if_pos x0, if_pos x0]
        · rw [if_neg x0, if_neg x0]
    · have e240 : T 0 3 = 240 := by omega
      refine ⟨-5, T, hA, fun S hC => ⟨S, ?_, hC, Cfr.rf⟩, fun S hM => ⟨S, ?_, hM, Mfr.rf⟩⟩
      · show f6_cheapest S x = _
        have hl : ¬ (nI 240 < 240) := by decide
        rw [hJ]
        unfold f6_cheapest_J12
        rw [hC.1.2.1, e240, if_neg hl]
      · show f7_cheapest S x = _
        have hl : nI 240 = 240 := rfl
        unfold f7_cheapest
        rw [f7_in_ok, xbI_eq, if_pos c, if_neg (by decide), xat_lit (v := 3) 3 rfl (by decide) (by decide), MV0 hM.1 (i := 3) (by omega) (by omega), e240, if_pos hl]
  · obtain ⟨n0, n1⟩ := n01 c
    refine ⟨-2, T, hA, fun S hC => ⟨S, ?_, hC, Cfr.rf⟩, fun S hM => ⟨S, ?_, hM, Mfr.rf⟩⟩
    · show f6_cheapest S x = _
      unfold f6_cheapest
      rw [if_neg n0, if_neg n1]
    · show f7_cheapest S x = _
      unfold f7_cheapest
      rw [f7_in_ok, xbI_eq, if_neg c, if_pos rfl]
