/-! what an entry stands for, by the places of the codes -/
def TX (m : Nat → Nat) (w : wS) (b x p : Nat) : Prop := if x < 8 then m p = x else ∀ t, t < w 3 x → m (p + t) = m (w 8 (b + (x - 10)) + t)
def WE (m : Nat → Nat) (n : Nat) (w : wS) (b p : Nat) : Prop := b + (w 0 0 - 10) ≤ w 4 0 ∧ (∀ e, 10 ≤ e → e < w 0 0 → w 5 (b + (e - 10)) = w 1 e ∧ w 6 (b + (e - 10)) + 1 = w 3 e ∧ w 8 (b + (e - 10)) + w 3 e ≤ n ∧ w 8 (b + (e - 10)) + w 6 (b + (e - 10)) ≤ p ∧ w 2 e = m (w 8 (b + (e - 10)) + w 6 (b + (e - 10))) ∧ TX m w b (w 1 e) (w 8 (b + (e - 10)))) ∧
  ∀ e e', 10 ≤ e → e < w 0 0 → 10 ≤ e' → e' < w 0 0 → w 1 e = w 1 e' → w 2 e = w 2 e' → e = e'
theorem szf_ph {w : wS} {x : Nat} (h : 10 ≤ x) : szf w x = w 3 x := by unfold szf; rw [if_neg (by omega), if_neg (by omega)]
theorem szf_1 {w : wS} {x : Nat} (h : x < 8) : szf w x = 1 := if_pos h
theorem TX_1 {m : Nat → Nat} {w : wS} {b x p : Nat} (h : x < 8) : TX m w b x p ↔ m p = x := by unfold TX; rw [if_pos h]
theorem TX_ph {m : Nat → Nat} {w : wS} {b x p : Nat} (h : 10 ≤ x) : TX m w b x p ↔ ∀ t, t < w 3 x → m (p + t) = m (w 8 (b + (x - 10)) + t) := by unfold TX; rw [if_neg (by omega)]
theorem szf_pos {w : wS} (hW : WB w) (x : Nat) : x < w 0 0 → ¬ (x = 8 ∨ x = 9) → 1 ≤ szf w x ∧ (10 ≤ x → 2 ≤ szf w x) := by
  induction x using Nat.strongRecOn with
  | _ x ih =>
    intro h1 h2
    by_cases c : x < 8
    · rw [szf_1 c]; exact ⟨Nat.le_refl _, fun h => by omega⟩
    · have h10 : 10 ≤ x := by omega
      obtain ⟨g1, g2, g3, g4⟩ := hW.2.2 x h10 h1
      have := (ih (w 1 x) g1 (by omega) g2).1
      rw [szf_ph h10, g4]
      exact ⟨by omega, fun _ => by omega⟩
theorem TX_head {m : Nat → Nat} {n b p p' e : Nat} {w : wS} (hW : WB w) (hE : WE m n w b p') (h1 : 10 ≤ e) (h2 : e < w 0 0) (h : TX m w b e p) : TX m w b (w 1 e) p ∧ m (p + szf w (w 1 e)) = w 2 e := by
  obtain ⟨g1, g2, g3, g4⟩ := hW.2.2 e h1 h2
  obtain ⟨e1, e2, e3, e4, e5, e6⟩ := hE.2.1 e h1 h2
  rw [TX_ph h1] at h
  refine ⟨?_, ?_⟩
  · by_cases c : w 1 e < 8
    · rw [TX_1 c] at e6 ⊢
      have := h 0 (by omega)
      rw [Nat.add_zero, Nat.add_zero] at this
      rw [this]; exact e6
    · have h10 : 10 ≤ w 1 e := by omega
      rw [TX_ph h10] at e6 ⊢
      rw [szf_ph h10] at g4
      intro t ht
      rw [h t (by omega)]
      exact e6 t ht
  · rw [e5, h _ (by omega)]
    congr 2
    omega
theorem TX_ext {m : Nat → Nat} {n b p p' x y : Nat} {w : wS} (hW : WB w) (hE : WE m n w b p') (hx : ¬ (x = 8 ∨ x = 9)) (h : TX m w b x p) (h1 : 10 ≤ y) (h2 : y < w 0 0) (hy : w 1 y = x) (hs : w 2 y = m (p + szf w x)) : TX m w b y p := by
  obtain ⟨g1, g2, g3, g4⟩ := hW.2.2 y h1 h2
  obtain ⟨e1, e2, e3, e4, e5, e6⟩ := hE.2.1 y h1 h2
  rw [TX_ph h1]
  rw [hy] at g4 e6
  intro t ht
  by_cases c : t = szf w x
  · rw [c, ← hs, e5]
    congr 2
    omega
  · by_cases c8 : x < 8
    · rw [szf_1 c8] at g4 c
      rw [TX_1 c8] at h e6
      have : t = 0 := by omega
      rw [this, Nat.add_zero, Nat.add_zero, h, e6]
    · have h10 : 10 ≤ x := by omega
      rw [szf_ph h10] at g4 c
      rw [TX_ph h10] at h e6
      rw [h t (by omega), e6 t (by omega)]
theorem TX_uniq {m : Nat → Nat} {n b p p' : Nat} {w : wS} (hW : WB w) (hE : WE m n w b p') (x : Nat) : ∀ y, x < w 0 0 → ¬ (x = 8 ∨ x = 9) → y < w 0 0 → ¬ (y = 8 ∨ y = 9) → szf w x = szf w y → TX m w b x p → TX m w b y p → x = y := by
  induction x using Nat.strongRecOn with
  | _ x ih =>
    intro y x1 x2 y1 y2 hs hx hy
    have sx := szf_pos hW x x1 x2
    have sy := szf_pos hW y y1 y2
    by_cases c : x < 8
    · rw [szf_1 c] at hs
      have cy : y < 8 := by
        by_cases q : y < 8
        · exact q
        · have := sy.2 (by omega); omega
      rw [TX_1 c] at hx
      rw [TX_1 cy] at hy
      rw [← hx, ← hy]
    · have x10 : 10 ≤ x := by omega
      have y10 : 10 ≤ y := by
        by_cases q : 10 ≤ y
        · exact q
        · have q8 : y < 8 := by omega
          rw [szf_1 q8] at hs
          have := sx.2 x10
          omega
      obtain ⟨g1, g2, g3, g4⟩ := hW.2.2 x x10 x1
      obtain ⟨k1, k2, k3, k4⟩ := hW.2.2 y y10 y1
      obtain ⟨a1, a2⟩ := TX_head hW hE x10 x1 hx
      obtain ⟨b1, b2⟩ := TX_head hW hE y10 y1 hy
      rw [szf_ph x10, szf_ph y10, g4, k4] at hs
      have hh := ih (w 1 x) g1 (w 1 y) (by omega) g2 (by omega) k2 (by omega) a1 b1
      refine hE.2.2 x y x10 x1 y10 y1 hh ?_
      rw [← a2, ← b2, hh]
theorem chs_yes {hd la : Nat → Nat} {x s : Nat} : ∀ {d k : Nat}, 0 < k → chs hd la x s d k = 0 → ∀ j, k ≤ j → j < k + d → ¬ (hd j = x ∧ la j = s)
  | 0, k, _, _, j, h1, h2 => by omega
  | d + 1, k, hk, h, j, h1, h2 => by
    rw [chs] at h
    by_cases c : hd k = x ∧ la k = s
    · rw [if_pos c] at h; omega
    · rw [if_neg c] at h
      by_cases cj : j = k
      · rw [cj]; exact c
      · exact chs_yes (by omega) h j (by omega) (by omega)
theorem chl_yes {w : wS} (hW : WB w) {x s : Nat} (h : chl w x s = 0) {j : Nat} (h1 : 10 ≤ j) (h2 : j < w 0 0) : ¬ (w 1 j = x ∧ w 2 j = s) :=
  chs_yes (by decide) h j h1 (by have := hW.1; omega)
/-- the longest match: what it stands for -/
theorem lm_TX {m : Nat → Nat} {n b p p' : Nat} {w : wS} (hW : WB w) (hE : WE m n w b p') : ∀ (d x q : Nat), p ≤ q → x < w 0 0 → ¬ (x = 8 ∨ x = 9) → szf w x = q - p → TX m w b x p → TX m w b (lm w m n d x q).1 p
  | 0, x, q, _, _, _, _, h => h
  | d + 1, x, q, h3, h4, h5, h6, h => by
    rw [lm]
    by_cases c : q < n ∧ ¬ chl w x (m q) = 0
    · rw [if_pos c]
      obtain ⟨g1, g2, g3, g4⟩ := chl_in hW c.2
      have g5 := (hW.2.2 _ g1 g2)
      have hs : szf w (chl w x (m q)) = (q + 1) - p := by
        rw [szf_ph g1, g5.2.2.2, g3, h6]
        omega
      refine lm_TX hW hE d _ (q + 1) (by omega) g2 (by omega) hs (TX_ext hW hE h5 h g1 g2 g3 ?_)
      rw [g4, h6]
      congr 1
      omega
    · rw [if_neg c]; exact h
/-- an entry has all its beginnings -/
theorem TX_anc {m : Nat → Nat} {n b p p' s : Nat} {w : wS} (hW : WB w) (hE : WE m n w b p') (hs : 1 ≤ s) (e : Nat) : 10 ≤ e → e < w 0 0 → s < w 3 e → TX m w b e p → ∃ f, 10 ≤ f ∧ f < w 0 0 ∧ w 3 f = s + 1 ∧ TX m w b f p := by
  induction e using Nat.strongRecOn with
  | _ e ih =>
    intro h1 h2 h3 h
    by_cases c : w 3 e = s + 1
    · exact ⟨e, h1, h2, c, h⟩
    · obtain ⟨g1, g2, g3, g4⟩ := hW.2.2 e h1 h2
      obtain ⟨a1, a2⟩ := TX_head hW hE h1 h2 h
      have h10 : 10 ≤ w 1 e := by
        by_cases q : w 1 e < 8
        · rw [szf_1 q] at g4; omega
        · omega
      rw [szf_ph h10] at g4
      exact ih (w 1 e) g1 h10 (by omega) (by omega) a1
/-- no entry is longer -/
theorem lm_long {m : Nat → Nat} {n b p p' x q : Nat} {w : wS} (hW : WB w) (hE : WE m n w b p') (hx : x < w 0 0) (hx2 : ¬ (x = 8 ∨ x = 9)) (hs : szf w x = q - p) (hpq : p < q) (hT : TX m w b x p) (hc : q < n → chl w x (m q) = 0) {e : Nat} (h1 : 10 ≤ e) (h2 : e < w 0 0) (h3 : q - p < w 3 e) (h4 : p + w 3 e ≤ n) : ¬ TX m w b e p := by
  intro h
  obtain ⟨f, f1, f2, f3, f4⟩ := TX_anc hW hE (s := q - p) (by omega) e h1 h2 h3 h
  obtain ⟨g1, g2, g3, g4⟩ := hW.2.2 f f1 f2
  obtain ⟨a1, a2⟩ := TX_head hW hE f1 f2 f4
  have hg : w 1 f = x := TX_uniq hW hE (w 1 f) x (by omega) g2 hx hx2 (by omega) a1 hT
  refine chl_yes hW (hc (by omega)) f1 f2 ⟨hg, ?_⟩
  rw [← a2, hg, hs]
  congr 1
  omega
