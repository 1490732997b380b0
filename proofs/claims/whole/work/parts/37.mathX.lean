/-! best -/
def sbs (f : Nat → Nat) (k : Nat) (s : Nat × Nat) : Nat × Nat := if s.1 = 0 ∨ f k < s.2 then (10 * (4 + k / 3) + k % 3, f k) else s
def sbf (f : Nat → Nat) : Nat → Nat → Nat × Nat → Nat × Nat
  | 0, _, s => s
  | d + 1, k, s => sbf f d (k + 1) (sbs f k s)
def sok (s : Nat × Nat) : Prop := s.1 < 100 ∧ s.2 < 3000
theorem sbs_ok {f : Nat → Nat} {k : Nat} {s : Nat × Nat} (hk : k < 18) (hf : f k < 3000) (hs : sok s) : sok (sbs f k s) := by
  unfold sbs
  by_cases c : s.1 = 0 ∨ f k < s.2
  · rw [if_pos c]; exact ⟨by show 10 * (4 + k / 3) + k % 3 < 100; omega, hf⟩
  · rw [if_neg c]; exact hs
def c1 (s : Nat × Nat) : Int32 := if s.1 = 0 then -6 else nI (s.1 / 10)
def c2 (s : Nat × Nat) : Int32 := if s.1 = 0 then -6 else nI (s.1 % 10)
def c3 (s : Nat × Nat) : Int32 := if s.1 = 0 then 1073741824 else nI s.2
def m1 (s : Nat × Nat) : Int32 := if s.1 = 0 then -6 else nI s.1
def m2 (s : Nat × Nat) : Int32 := if s.1 = 0 then 0 else nI s.2
/-- a step in the class -/
theorem best6_step {S : xSt} {T : wS} (hA : AI T) (hC : CI S T) {w p : Nat} (hw : w < 6) (hp : p < 3) {s : Nat × Nat} (hs : sok s) (k29 : xSt → Int32 → Int32 → Int32 → Int32 → Int32 → Option xR) (F : Nat) (i1 : Int32) :
    ∃ S', f6_best_L46 k29 (F + 1) S i1 (c1 s) (c2 s) (c3 s) (nI (4 + w)) (nI p) = f6_best_L46 k29 F S' i1 (c1 (sbs (fun k => tb (mm (T 0)) (T 0 3) (4 + k / 3) (k % 3) (T 0 2)) (3 * w + p) s)) (c2 (sbs (fun k => tb (mm (T 0)) (T 0 3) (4 + k / 3) (k % 3) (T 0 2)) (3 * w + p) s)) (c3 (sbs (fun k => tb (mm (T 0)) (T 0 3) (4 + k / 3) (k % 3) (T 0 2)) (3 * w + p) s)) (nI (4 + w)) (nI (p + 1)) ∧ CI S' T ∧ Cfr S S' := by
  have hn := hA.1.2.2.2.1
  obtain ⟨S1, e1, g1, g2⟩ := trial_ok (S := S) (m := mm (T 0)) (n := T 0 3) (wd := 4 + w) (po := p) hA (hC.1.1 2 (by decide)) hC.2.2.2.2.2.2.2.1 (by omega) (by omega) (by omega) hn (fun j hj => ⟨hC.1.2.2.1 j hj, hA.1.2.2.2.2.1 j hj⟩)
  refine ⟨S1, ?_, CI_tr hC g2 g1, PW_Cfr g2⟩
  have hle := tb_le (m := mm (T 0)) (n := T 0 3) (wd := 4 + w) (po := p) (wi := T 0 2) (by omega) (by omega) hn (fun j hj => hA.1.2.2.2.2.1 j hj)
  have hq : tb (mm (T 0)) (T 0 3) (4 + (3 * w + p) / 3) ((3 * w + p) % 3) (T 0 2) = tb (mm (T 0)) (T 0 3) (4 + w) p (T 0 2) := by
    rw [show (3 * w + p) / 3 = w by omega, show (3 * w + p) % 3 = p by omega]
  show b6_best_L46 k29 (f6_best_L46 k29 F) S i1 (c1 s) (c2 s) (c3 s) (nI (4 + w)) (nI p) = _
  unfold b6_best_L46 f6_best_J90
  have h2 : ¬ ((xSf 1 1) < nI p) := nI_nlt (a := 2) (b := p) (by omega) (by decide)
  rw [xat_lit (v := 1) 1 rfl (by decide) (by decide), if_neg h2, hC.1.2.1, e1, xbI_eq, nI_1]
  unfold sbs
  simp only [hq]
  by_cases h0 : s.1 = 0
  · have hc3 : ¬ (c3 s ≤ nI (tb (mm (T 0)) (T 0 3) (4 + w) p (T 0 2))) := by
      unfold c3
      rw [if_pos h0]
      exact nI_ge (a := tb (mm (T 0)) (T 0 3) (4 + w) p (T 0 2)) (b := 1073741824) (by omega) (by decide)
    rw [if_neg hc3, if_pos (Or.inl h0)]
    unfold c1 c2 c3
    rw [if_neg (by show ¬ 10 * (4 + (3 * w + p) / 3) + (3 * w + p) % 3 = 0; omega), if_neg (by show ¬ 10 * (4 + (3 * w + p) / 3) + (3 * w + p) % 3 = 0; omega), if_neg (by show ¬ 10 * (4 + (3 * w + p) / 3) + (3 * w + p) % 3 = 0; omega)]
    rw [show (10 * (4 + (3 * w + p) / 3) + (3 * w + p) % 3) / 10 = 4 + w by omega, show (10 * (4 + (3 * w + p) / 3) + (3 * w + p) % 3) % 10 = p by omega]
  · by_cases hlt : tb (mm (T 0)) (T 0 3) (4 + w) p (T 0 2) < s.2
    · have hc3 : ¬ (c3 s ≤ nI (tb (mm (T 0)) (T 0 3) (4 + w) p (T 0 2))) := by
        unfold c3
        rw [if_neg h0]
        exact nI_ge hlt (by have := hs.2; omega)
      rw [if_neg hc3, if_pos (Or.inr hlt)]
      unfold c1 c2 c3
      rw [if_neg (by show ¬ 10 * (4 + (3 * w + p) / 3) + (3 * w + p) % 3 = 0; omega), if_neg (by show ¬ 10 * (4 + (3 * w + p) / 3) + (3 * w + p) % 3 = 0; omega), if_neg (by show ¬ 10 * (4 + (3 * w + p) / 3) + (3 * w + p) % 3 = 0; omega)]
      rw [show (10 * (4 + (3 * w + p) / 3) + (3 * w + p) % 3) / 10 = 4 + w by omega, show (10 * (4 + (3 * w + p) / 3) + (3 * w + p) % 3) % 10 = p by omega]
    · have hc3 : c3 s ≤ nI (tb (mm (T 0)) (T 0 3) (4 + w) p (T 0 2)) := by
        unfold c3
        rw [if_neg h0]
        exact nI_le (by omega) (by omega)
      rw [if_pos hc3, if_neg (fun q => q.elim h0 hlt)]
/-- a step in the reference -/
theorem best7_step {S : xSt} {T : wS} (hA : AI T) (hM : MI S T) {w p : Nat} (hw : w < 6) (hp : p < 3) {s : Nat × Nat} (hs : sok s) (k20 : xSt → Int32 → Int32 → Int32 → Int32 → Option xR) (F : Nat) (i1 : Int32) :
    ∃ S', f7_best_L30 k20 (F + 1) S i1 (m1 s) (m2 s) (nI (4 + w)) (nI p) = f7_best_L30 k20 F S' i1 (m1 (sbs (fun k => tb (mm (T 0)) (T 0 3) (4 + k / 3) (k % 3) (T 0 2)) (3 * w + p) s)) (m2 (sbs (fun k => tb (mm (T 0)) (T 0 3) (4 + k / 3) (k % 3) (T 0 2)) (3 * w + p) s)) (nI (4 + w)) (nI (p + 1)) ∧ MI S' T ∧ Mfr S S' := by
  have hn := hA.1.2.2.2.1
  obtain ⟨S1, e1, e2, g1, g2⟩ := write_now (wd := 4 + w) (po := p) hA hM (by omega) (by omega) (by omega)
  refine ⟨S1, ?_, g1, FM_Mfr g2⟩
  have hle := tb_le (m := mm (T 0)) (n := T 0 3) (wd := 4 + w) (po := p) (wi := T 0 2) (by omega) (by omega) hn (fun j hj => hA.1.2.2.2.2.1 j hj)
  have hq : tb (mm (T 0)) (T 0 3) (4 + (3 * w + p) / 3) ((3 * w + p) % 3) (T 0 2) = tb (mm (T 0)) (T 0 3) (4 + w) p (T 0 2) := by
    rw [show (3 * w + p) / 3 = w by omega, show (3 * w + p) % 3 = p by omega]
  have h10 : (10 : Int32) * nI (4 + w) + nI p = nI (10 * (4 + (3 * w + p) / 3) + (3 * w + p) % 3) := by
    rw [show (3 * w + p) / 3 = w by omega, show (3 * w + p) % 3 = p by omega]
    have h6 : w = 0 ∨ w = 1 ∨ w = 2 ∨ w = 3 ∨ w = 4 ∨ w = 5 := by omega
    have h3 : p = 0 ∨ p = 1 ∨ p = 2 := by omega
    rcases h6 with rfl | rfl | rfl | rfl | rfl | rfl <;> rcases h3 with rfl | rfl | rfl <;> rfl
  have hc : ¬ (10 * (4 + (3 * w + p) / 3) + (3 * w + p) % 3 = 0) := by omega
  show b7_best_L30 k20 (f7_best_L30 k20 F) S i1 (m1 s) (m2 s) (nI (4 + w)) (nI p) = _
  unfold b7_best_L30 f7_best_J70 f7_best_J56 f7_best_J70
  have h2 : ¬ ((3 : Int32) ≤ nI p) := nI_ge (a := p) (b := 3) (by omega) (by omega)
  rw [if_neg h2, e1, xbV_eq, e2, xbI_eq, xbI_eq, nI_1, h10]
  unfold sbs
  simp only [hq]
  by_cases h0 : s.1 = 0
  · have hm : m1 s < 0 := by unfold m1; rw [if_pos h0]; decide
    rw [if_pos hm, if_pos (Or.inl h0)]
    unfold m1 m2
    rw [if_neg hc, if_neg hc]
  · have hm : ¬ (m1 s < 0) := by unfold m1; rw [if_neg h0]; exact nI_nlt (a := s.1) (b := 0) (Nat.zero_le _) (by have := hs.1; omega)
    rw [if_neg hm]
    by_cases hlt : tb (mm (T 0)) (T 0 3) (4 + w) p (T 0 2) < s.2
    · have hc3 : ¬ (m2 s ≤ nI (tb (mm (T 0)) (T 0 3) (4 + w) p (T 0 2))) := by
        unfold m2
        rw [if_neg h0]
        exact nI_ge hlt (by have := hs.2; omega)
      rw [if_neg hc3, if_pos (Or.inr hlt)]
      unfold m1 m2
      rw [if_neg hc, if_neg hc, e2, xbI_eq]
    · have hc3 : m2 s ≤ nI (tb (mm (T 0)) (T 0 3) (4 + w) p (T 0 2)) := by
        unfold m2
        rw [if_neg h0]
        exact nI_le (by omega) (by omega)
      rw [if_pos hc3, if_neg (fun q => q.elim h0 hlt)]
def fT (T : wS) (k : Nat) : Nat := tb (mm (T 0)) (T 0 3) (4 + k / 3) (k % 3) (T 0 2)
theorem fT_le {T : wS} (hA : AI T) {k : Nat} (hk : k < 18) : fT T k < 3000 := by
  have := tb_le (m := mm (T 0)) (n := T 0 3) (wd := 4 + k / 3) (po := k % 3) (wi := T 0 2) (by omega) (by omega) hA.1.2.2.2.1 (fun j hj => hA.1.2.2.2.2.1 j hj)
  unfold fT
  omega
theorem best6_in {T : wS} (hA : AI T) {w : Nat} (hw : w < 6) (k29 : xSt → Int32 → Int32 → Int32 → Int32 → Int32 → Option xR) (i1 : Int32) : ∀ (d F p : Nat) (S : xSt) (s : Nat × Nat), p + d = 3 → d < F → CI S T → sok s →
    ∃ S', f6_best_L46 k29 F S i1 (c1 s) (c2 s) (c3 s) (nI (4 + w)) (nI p) = k29 S' i1 (c1 (sbf (fT T) d (3 * w + p) s)) (c2 (sbf (fT T) d (3 * w + p) s)) (c3 (sbf (fT T) d (3 * w + p) s)) (nI (4 + w + 1)) ∧ CI S' T ∧ Cfr S S' ∧ sok (sbf (fT T) d (3 * w + p) s)
  | d, 0, _, _, _, _, h, _, _ => absurd h (Nat.not_lt_zero _)
  | 0, F + 1, p, S, s, e, _, hC, hs => by
    have hp : p = 3 := by omega
    subst hp
    refine ⟨S, ?_, hC, Cfr.rf, hs⟩
    show b6_best_L46 k29 (f6_best_L46 k29 F) S i1 (c1 s) (c2 s) (c3 s) (nI (4 + w)) (nI 3) = _
    unfold b6_best_L46 f6_best_J96
    have h2 : (xSf 1 1) < nI 3 := by decide
    rw [xat_lit (v := 1) 1 rfl (by decide) (by decide), if_pos h2, nI_1]
    rfl
  | d + 1, F + 1, p, S, s, e, hF, hC, hs => by
    obtain ⟨S1, e1, g1, g2⟩ := best6_step hA hC hw (p := p) (by omega) hs k29 F i1
    have hs1 : sok (sbs (fT T) (3 * w + p) s) := sbs_ok (by omega) (fT_le hA (by omega)) hs
    obtain ⟨S2, e2, k1, k2, k3⟩ := best6_in hA hw k29 i1 d F (p + 1) S1 (sbs (fT T) (3 * w + p) s) (by omega) (by omega) g1 hs1
    refine ⟨S2, ?_, k1, g2.tr k2, k3⟩
    rw [e1]
    exact e2
theorem best7_in {T : wS} (hA : AI T) {w : Nat} (hw : w < 6) (k20 : xSt → Int32 → Int32 → Int32 → Int32 → Option xR) (i1 : Int32) : ∀ (d F p : Nat) (S : xSt) (s : Nat × Nat), p + d = 3 → d < F → MI S T → sok s →
    ∃ S', f7_best_L30 k20 F S i1 (m1 s) (m2 s) (nI (4 + w)) (nI p) = k20 S' i1 (m1 (sbf (fT T) d (3 * w + p) s)) (m2 (sbf (fT T) d (3 * w + p) s)) (nI (4 + w + 1)) ∧ MI S' T ∧ Mfr S S' ∧ sok (sbf (fT T) d (3 * w + p) s)
  | d, 0, _, _, _, _, h, _, _ => absurd h (Nat.not_lt_zero _)
  | 0, F + 1, p, S, s, e, _, hC, hs => by
    have hp : p = 3 := by omega
    subst hp
    refine ⟨S, ?_, hC, Mfr.rf, hs⟩
    show b7_best_L30 k20 (f7_best_L30 k20 F) S i1 (m1 s) (m2 s) (nI (4 + w)) (nI 3) = _
    unfold b7_best_L30 f7_best_J76
    have h2 : (3 : Int32) ≤ nI 3 := by decide
    rw [if_pos h2, nI_1]
    rfl
  | d + 1, F + 1, p, S, s, e, hF, hC, hs => by
    obtain ⟨S1, e1, g1, g2⟩ := best7_step hA hC hw (p := p) (by omega) hs k20 F i1
    have hs1 : sok (sbs (fT T) (3 * w + p) s) := sbs_ok (by omega) (fT_le hA (by omega)) hs
    obtain ⟨S2, e2, k1, k2, k3⟩ := best7_in hA hw k20 i1 d F (p + 1) S1 (sbs (fT T) (3 * w + p) s) (by omega) (by omega) g1 hs1
    refine ⟨S2, ?_, k1, g2.tr k2, k3⟩
    rw [e1]
    exact e2
def sbo (f : Nat → Nat) : Nat → Nat → Nat × Nat → Nat × Nat
  | 0, _, s => s
  | d + 1, w, s => sbo f d (w + 1) (sbf f 3 (3 * w + 0) s)
theorem best6_out {T : wS} (hA : AI T) (i1 : Int32) : ∀ (d F w : Nat) (S : xSt) (s : Nat × Nat), w + d = 6 → d < F → CI S T → sok s →
    ∃ S', f6_best_L29 F S i1 (c1 s) (c2 s) (c3 s) (nI (4 + w)) = f6_best_J102 S' i1 (c1 (sbo (fT T) d w s)) (c2 (sbo (fT T) d w s)) (c3 (sbo (fT T) d w s)) ∧ CI S' T ∧ Cfr S S' ∧ sok (sbo (fT T) d w s)
  | d, 0, _, _, _, _, h, _, _ => absurd h (Nat.not_lt_zero _)
  | 0, F + 1, w, S, s, e, _, hC, hs => by
    have hw : w = 6 := by omega
    subst hw
    refine ⟨S, ?_, hC, Cfr.rf, hs⟩
    show b6_best_L29 (f6_best_L29 F) S i1 (c1 s) (c2 s) (c3 s) (nI (4 + 6)) = _
    unfold b6_best_L29
    have h2 : (xSf 1 0) < nI (4 + 6) := by decide
    rw [xat_lit (v := 0) 0 rfl (by decide) (by decide), if_pos h2]
    rfl
  | d + 1, F + 1, w, S, s, e, hF, hC, hs => by
    obtain ⟨S1, e1, g1, g2, g3⟩ := best6_in hA (w := w) (by omega) (f6_best_L29 F) i1 3 xFU 0 S s rfl (by show 3 < 1000000; omega) hC hs
    obtain ⟨S2, e2, k1, k2, k3⟩ := best6_out hA i1 d F (w + 1) S1 (sbf (fT T) 3 (3 * w + 0) s) (by omega) (by omega) g1 g3
    refine ⟨S2, ?_, k1, g2.tr k2, k3⟩
    show b6_best_L29 (f6_best_L29 F) S i1 (c1 s) (c2 s) (c3 s) (nI (4 + w)) = _
    unfold b6_best_L29
    have h2 : ¬ ((xSf 1 0) < nI (4 + w)) := nI_nlt (a := 9) (b := 4 + w) (by omega) (by decide)
    rw [xat_lit (v := 0) 0 rfl (by decide) (by decide), if_neg h2, xat_lit (v := 1) 1 rfl (by decide) (by decide)]
    have e3 : xSf 0 1 = nI 0 := by decide
    rw [e3, e1]
    exact e2
theorem best7_out {T : wS} (hA : AI T) (i1 : Int32) : ∀ (d F w : Nat) (S : xSt) (s : Nat × Nat), w + d = 6 → d < F → MI S T → sok s →
    ∃ S', f7_best_L20 F S i1 (m1 s) (m2 s) (nI (4 + w)) = f7_best_J82 S' i1 (m1 (sbo (fT T) d w s)) (m2 (sbo (fT T) d w s)) ∧ MI S' T ∧ Mfr S S' ∧ sok (sbo (fT T) d w s)
  | d, 0, _, _, _, _, h, _, _ => absurd h (Nat.not_lt_zero _)
  | 0, F + 1, w, S, s, e, _, hC, hs => by
    have hw : w = 6 := by omega
    subst hw
    refine ⟨S, ?_, hC, Mfr.rf, hs⟩
    show b7_best_L20 (f7_best_L20 F) S i1 (m1 s) (m2 s) (nI (4 + 6)) = _
    unfold b7_best_L20
    have h2 : (10 : Int32) ≤ nI (4 + 6) := by decide
    rw [if_pos h2]
    rfl
  | d + 1, F + 1, w, S, s, e, hF, hC, hs => by
    obtain ⟨S1, e1, g1, g2, g3⟩ := best7_in hA (w := w) (by omega) (f7_best_L20 F) i1 3 xFU 0 S s rfl (by show 3 < 1000000; omega) hC hs
    obtain ⟨S2, e2, k1, k2, k3⟩ := best7_out hA i1 d F (w + 1) S1 (sbf (fT T) 3 (3 * w + 0) s) (by omega) (by omega) g1 g3
    refine ⟨S2, ?_, k1, g2.tr k2, k3⟩
    show b7_best_L20 (f7_best_L20 F) S i1 (m1 s) (m2 s) (nI (4 + w)) = _
    unfold b7_best_L20
    have h2 : ¬ ((10 : Int32) ≤ nI (4 + w)) := nI_ge (a := 4 + w) (b := 10) (by omega) (by omega)
    rw [if_neg h2, show (0 : Int32) = nI 0 from rfl, e1]
    exact e2
