/-! writing, code by code -/
def WT (m : Nat → Nat) (n full : Nat) (w : wS) (b p : Nat) : Prop := WB w ∧ w 0 0 ≤ full ∧ WI w p ∧ p ≤ n ∧ WE m n w b p ∧ b ≤ w 4 0 ∧ (p < n → w 0 0 < full → w 0 0 = 10 + (w 4 0 - b))
def RN (m : Nat → Nat) (n full po wi : Nat) (wf w : wS) (p : Nat) : Prop := ∃ d, n ≤ p + d ∧ wf = wcd (wr m n full po wi d w p) 9 0 0
def kp (w w' : wS) : Prop := w 4 0 ≤ w' 4 0 ∧ ∀ i, i < w 4 0 → w' 5 i = w 5 i ∧ w' 6 i = w 6 i ∧ w' 7 i = w 7 i ∧ w' 8 i = w 8 i
theorem kp.rf (w : wS) : kp w w := ⟨Nat.le_refl _, fun _ _ => ⟨rfl, rfl, rfl, rfl⟩⟩
theorem kp.tr {w w' w'' : wS} (h : kp w w') (h2 : kp w' w'') : kp w w'' := ⟨Nat.le_trans h.1 h2.1, fun i hi => by
  obtain ⟨a1, a2, a3, a4⟩ := h.2 i hi
  obtain ⟨b1, b2, b3, b4⟩ := h2.2 i (by have := h.1; omega)
  exact ⟨b1.trans a1, b2.trans a2, b3.trans a3, b4.trans a4⟩⟩
theorem kp_wcd (w : wS) (x p k : Nat) : kp w (wcd w x p k) := ⟨by rw [wcd_4]; omega, fun i hi => by
  rw [wcd_5, wcd_6, wcd_7, wcd_8, if_neg (by omega), if_neg (by omega), if_neg (by omega), if_neg (by omega)]
  exact ⟨rfl, rfl, rfl, rfl⟩⟩
theorem kp_wgr (w : wS) (full x s : Nat) : kp w (wgr w full x s) := by
  unfold wgr
  by_cases c : w 0 0 < full
  · rw [if_pos c]
    exact ⟨by rw [wad_4]; exact Nat.le_refl _, fun i hi => by rw [wad_5, wad_6, wad_7, wad_8]; exact ⟨rfl, rfl, rfl, rfl⟩⟩
  · rw [if_neg c]; exact kp.rf w
theorem kp_clr (w : wS) : kp w (wu (wcd w 8 0 0) 0 0 10) := by
  refine kp.tr (kp_wcd w 8 0 0) ⟨?_, fun i hi => ?_⟩
  · rw [wu_o (by decide)]; exact Nat.le_refl _
  · rw [wu_o (by decide), wu_o (by decide), wu_o (by decide), wu_o (by decide)]; exact ⟨rfl, rfl, rfl, rfl⟩
theorem kp_wst (m : Nat → Nat) (n full po wi : Nat) (w : wS) (p : Nat) : kp w (wst m n full po wi w p) := by
  unfold wst
  simp only
  generalize lm w m n n (m p) (p + 1) = r
  by_cases c : r.2 < n
  · rw [if_pos c]
    have h := (kp_wcd w r.1 p (r.2 - p)).tr (kp_wgr (wcd w r.1 p (r.2 - p)) full r.1 (m r.2))
    unfold wdc
    by_cases c2 : wcl (wgr (wcd w r.1 p (r.2 - p)) full r.1 (m r.2)) full po wi = true
    · rw [if_pos c2]; exact h.tr (kp_clr _)
    · rw [if_neg c2]; exact h
  · rw [if_neg c]; exact kp_wcd w r.1 p (r.2 - p)
theorem kp_wr (m : Nat → Nat) (n full po wi : Nat) : ∀ (d : Nat) (w : wS) (p : Nat), kp w (wr m n full po wi d w p)
  | 0, w, _ => kp.rf w
  | d + 1, w, p => by
    rw [wr]
    by_cases c : p < n
    · rw [if_pos c]; exact (kp_wst m n full po wi w p).tr (kp_wr m n full po wi d _ _)
    · rw [if_neg c]; exact kp.rf w
theorem RN_kp {m : Nat → Nat} {n full po wi p : Nat} {wf w : wS} (h : RN m n full po wi wf w p) : kp w wf ∧ w 4 0 < wf 4 0 := by
  obtain ⟨d, -, rfl⟩ := h
  have h1 := kp_wr m n full po wi d w p
  refine ⟨h1.tr (kp_wcd _ 9 0 0), ?_⟩
  rw [wcd_4]
  have := h1.1
  omega
theorem RN_step {m : Nat → Nat} {n full po wi p : Nat} {wf w : wS} (h : RN m n full po wi wf w p) (hp : p < n) (hq : p < wnx m n w p) : RN m n full po wi wf (wst m n full po wi w p) (wnx m n w p) := by
  obtain ⟨d, h1, h2⟩ := h
  cases d with
  | zero => omega
  | succ d =>
    rw [wr, if_pos hp] at h2
    exact ⟨d, by omega, h2⟩
theorem RN_end {m : Nat → Nat} {n full po wi p : Nat} {wf w : wS} (h : RN m n full po wi wf w p) (hp : n ≤ p) : wf = wcd w 9 0 0 := by
  obtain ⟨d, h1, h2⟩ := h
  rw [wr_end m n full po wi w d p hp] at h2
  exact h2
/-- the code that comes, and what it stands for -/
theorem wt_code {m : Nat → Nat} {n full b p : Nat} {w : wS} (hm : ∀ j, j < n → m j < 8) (hT : WT m n full w b p) (hp : p < n) : ∃ x q, lm w m n n (m p) (p + 1) = (x, q) ∧ x < w 0 0 ∧ ¬ (x = 8 ∨ x = 9) ∧ p < q ∧ q ≤ n ∧ szf w x = q - p ∧ TX m w b x p ∧ (q < n → chl w x (m q) = 0) := by
  obtain ⟨hW, hef, hI, hpn, hE, -⟩ := hT
  have h10 := hW.1
  have hmp := hm p hp
  have hs : szf w (m p) = p + 1 - p := by rw [szf_1 hmp]; omega
  obtain ⟨l1, l2, l3, l4, l5, l6⟩ := lm_ok hW m n p n (m p) (p + 1) (by omega) (by omega) (by omega) (by omega) (by omega) hs
  have l7 := lm_TX hW hE n (m p) (p + 1) (by omega) (by omega) (by omega) hs ((TX_1 hmp).mpr rfl)
  exact ⟨_, _, rfl, l1, l2, by omega, l4, l5, l7, l6⟩
theorem TX_wcd {m : Nat → Nat} {w : wS} {b x p y p2 k : Nat} (hx : b + (x - 10) < w 4 0 ∨ x < 8) : TX m (wcd w y p2 k) b x p ↔ TX m w b x p := by
  unfold TX
  rw [wcd_3]
  by_cases c : x < 8
  · rw [if_pos c, if_pos c]
  · rw [if_neg c, if_neg c, wcd_8, if_neg (by omega)]
theorem WE_wcd {m : Nat → Nat} {n b p p' x k : Nat} {w : wS} (hW : WB w) (hE : WE m n w b p) (hp : p ≤ p') (p2 : Nat) : WE m n (wcd w x p2 k) b p' := by
  obtain ⟨h1, h2, h3⟩ := hE
  have h10 := hW.1
  unfold WE
  rw [wcd_0, wcd_1, wcd_2, wcd_3, wcd_4]
  refine ⟨by omega, fun e a1 a2 => ?_, h3⟩
  obtain ⟨e1, e2, e3, e4, e5, e6⟩ := h2 e a1 a2
  have g := (hW.2.2 e a1 a2)
  rw [wcd_5, wcd_6, wcd_8, if_neg (by omega), if_neg (by omega), if_neg (by omega)]
  exact ⟨e1, e2, e3, by omega, e5, (TX_wcd (by omega)).mpr e6⟩
theorem TX_wad {m : Nat → Nat} {w : wS} {b x p y s : Nat} (hx : x < w 0 0) : TX m (wad w y s) b x p ↔ TX m w b x p := by
  unfold TX
  rw [wad_8, wad_3, if_neg (show ¬ x = w 0 0 by omega)]
theorem WE_wad {m : Nat → Nat} {n b p p2 k x : Nat} {w : wS} (hW : WB w) (hE : WE m n w b (p2 + k)) (hx : x < w 0 0) (hk : w 4 0 = b + (w 0 0 - 10) + 1) (h5 : w 5 (b + (w 0 0 - 10)) = x) (h6 : w 6 (b + (w 0 0 - 10)) = k) (h8 : w 8 (b + (w 0 0 - 10)) = p2) (hs : szf w x = k) (hn : p2 + k < n) (hT : TX m w b x p2) (hc : chl w x (m (p2 + k)) = 0) (hp : p = p2 + k) : WE m n (wad w x (m (p2 + k))) b p := by
  obtain ⟨h1, h2, h3⟩ := hE
  have h10 := hW.1
  subst hp
  unfold WE
  rw [wad_0, wad_4, wad_5, wad_6, wad_8]
  refine ⟨by omega, fun e a1 a2 => ?_, fun e e' a1 a2 b1 b2 c1 c2 => ?_⟩
  · rw [wad_1, wad_2, wad_3]
    by_cases c : e = w 0 0
    · subst c
      rw [if_pos rfl, if_pos rfl, if_pos rfl, h5, h6, h8, hs]
      exact ⟨rfl, rfl, by omega, by omega, rfl, (TX_wad hx).mpr hT⟩
    · rw [if_neg c, if_neg c, if_neg c]
      obtain ⟨e1, e2, e3, e4, e5, e6⟩ := h2 e a1 (by omega)
      have g := hW.2.2 e a1 (by omega)
      exact ⟨e1, e2, e3, e4, e5, (TX_wad (by omega)).mpr e6⟩
  · rw [wad_1, wad_1] at c1
    rw [wad_2, wad_2] at c2
    by_cases ce : e = w 0 0
    · by_cases ce' : e' = w 0 0
      · rw [ce, ce']
      · rw [if_pos ce, if_neg ce'] at c1 c2
        exact absurd ⟨c1.symm, c2.symm⟩ (chl_yes hW hc b1 (by omega))
    · by_cases ce' : e' = w 0 0
      · rw [if_neg ce, if_pos ce'] at c1 c2
        exact absurd ⟨c1, c2⟩ (chl_yes hW hc a1 (by omega))
      · rw [if_neg ce, if_neg ce'] at c1 c2
        exact h3 e e' a1 (by omega) b1 (by omega) c1 c2
/-- behind a code, signs being left -/
theorem wt_grow {m : Nat → Nat} {n full b p x q : Nat} {w : wS} (hfl : 16 ≤ full ∧ full ≤ 512) (hn : n ≤ 240) (hm : ∀ j, j < n → m j < 8) (hT : WT m n full w b p) (l1 : x < w 0 0) (l2 : ¬ (x = 8 ∨ x = 9)) (l3 : p < q) (l4 : q < n) (l5 : szf w x = q - p) (l7 : TX m w b x p) (l6 : chl w x (m q) = 0) : WT m n full (wgr (wcd w x p (q - p)) full x (m q)) b q := by
  obtain ⟨hW, hef, ⟨⟨r, hq1, hq2⟩, hs, hl⟩, hpn, hE, hb, hg⟩ := hT
  have h10 := hW.1
  have hW1 := wcd_WB hW x p (q - p)
  unfold wgr
  by_cases he : (wcd w x p (q - p)) 0 0 < full
  · rw [if_pos he]
    rw [wcd_0] at he
    have hg := hg (by omega) he
    refine ⟨wad_WB hW1 (by rw [wcd_0]; exact l1) l2 (hm q l4) (by rw [wcd_0]; omega), by rw [wad_0, wcd_0]; omega, ⟨⟨r, ?_, ?_⟩, ?_, ?_⟩, by omega, ?_, by rw [wad_4, wcd_4]; omega, fun _ _ => by rw [wad_0, wad_4, wcd_0, wcd_4]; omega⟩
    · rw [wad_4, wcd_4]; omega
    · rw [wad_0, wcd_0]; omega
    · rw [wad_10, wad_4]; omega
    · rw [wad_9, wcd_9, wcd_szf, l5]
      omega
    · have hqp : q = p + (q - p) := by omega
      have hi : b + (w 0 0 - 10) = w 4 0 := by omega
      have hE1 := WE_wcd (x := x) (k := q - p) hW hE (p' := p + (q - p)) (by omega) p
      have := WE_wad (x := x) (p := q) (p2 := p) (k := q - p) hW1 hE1 (by rw [wcd_0]; exact l1) (by rw [wcd_4, wcd_0]; omega) (by rw [wcd_0, hi, wcd_5, if_pos rfl]) (by rw [wcd_0, hi, wcd_6, if_pos rfl]) (by rw [wcd_0, hi, wcd_8, if_pos rfl]) (by rw [wcd_szf]; exact l5) (by omega) ((TX_wcd (by omega)).mpr l7) (by rw [wcd_chl, ← hqp]; exact l6) hqp
      rw [← hqp] at this
      exact this
  · rw [if_neg he]
    rw [wcd_0] at he
    refine ⟨hW1, by rw [wcd_0]; exact hef, ⟨⟨r, ?_, ?_⟩, ?_, ?_⟩, by omega, WE_wcd hW hE (by omega) p, by rw [wcd_4]; omega, fun _ h => by rw [wcd_0] at h; omega⟩
    · rw [wcd_4]; omega
    · rw [wcd_0]; omega
    · rw [wcd_10, wcd_4]; omega
    · rw [wcd_9]; exact hl
/-- behind the last code that stands for signs -/
theorem wt_last {m : Nat → Nat} {n full b p x : Nat} {w : wS} (hT : WT m n full w b p) (hp : p < n) : WT m n full (wcd w x p (n - p)) b n := by
  obtain ⟨hW, hef, ⟨⟨r, hq1, hq2⟩, hs, hl⟩, hpn, hE, hb, hg⟩ := hT
  refine ⟨wcd_WB hW x p (n - p), by rw [wcd_0]; exact hef, ⟨⟨r, ?_, ?_⟩, ?_, ?_⟩, Nat.le_refl _, WE_wcd hW hE hpn p, by rw [wcd_4]; omega, fun h => by omega⟩
  · rw [wcd_4]; omega
  · rw [wcd_0]; omega
  · rw [wcd_10, wcd_4]; omega
  · rw [wcd_9]; exact hl
/-- behind CLEAR -/
theorem wt_clear {m : Nat → Nat} {n full po wi b p : Nat} {w : wS} (hfl : 16 ≤ full ∧ full ≤ 512) (hT : WT m n full w b p) (hc : wcl w full po wi = true) : WT m n full (wu (wcd w 8 0 0) 0 0 10) (w 4 0 + 1) p := by
  obtain ⟨hW, hef, ⟨⟨r, hq1, hq2⟩, hs, hl⟩, hpn, hE, hb, hg⟩ := hT
  have he : w 0 0 = full := by
    rw [wcl_eq, Bool.and_eq_true, decide_eq_true_eq] at hc
    exact hc.1
  have e0 : (wu (wcd w 8 0 0) 0 0 10) 0 0 = 10 := by rw [wu_s, if_pos rfl]
  have e4 : (wu (wcd w 8 0 0) 0 0 10) 4 0 = w 4 0 + 1 := by rw [wu_o (by decide), wcd_4]
  refine ⟨wdr_WB (wcd_WB hW 8 0 0), by rw [e0]; omega, ⟨⟨r + 1, ?_, ?_⟩, ?_, ?_⟩, hpn, ⟨by rw [e0, e4]; omega, fun e a1 a2 => by rw [e0] at a2; omega, fun e e' a1 a2 => by rw [e0] at a2; omega⟩, by rw [e4]; exact Nat.le_refl _, fun _ _ => by rw [e0, e4]; omega⟩
  · rw [e4]; omega
  · rw [e0]; omega
  · rw [e4, wu_o (by decide), wcd_10]; omega
  · rw [wu_o (by decide), wcd_9]; exact hl
theorem wt_start {m : Nat → Nat} {n full : Nat} (hfl : 16 ≤ full ∧ full ≤ 512) : WT m n full w0 0 0 :=
  ⟨w0_WB, by show 10 ≤ full; omega, w0_WI, Nat.zero_le _, ⟨by decide, fun e a1 a2 => absurd a2 (by show ¬ e < 10; omega), fun e e' a1 a2 => absurd a2 (by show ¬ e < 10; omega)⟩, Nat.le_refl _, fun _ _ => rfl⟩
/-- a code, and where the writer stands behind it -/
theorem tr_code {m : Nat → Nat} {n full po wi b p : Nat} {wf w : wS} (hfl : 16 ≤ full ∧ full ≤ 512) (hn : n ≤ 240) (hm : ∀ j, j < n → m j < 8) (hT : WT m n full w b p) (hR : RN m n full po wi wf w p) (hp : p < n) : ∃ x q,
    (x < w 0 0 ∧ ¬ (x = 8 ∨ x = 9) ∧ p < q ∧ q ≤ n ∧ szf w x = q - p ∧ TX m w b x p ∧ (q < n → chl w x (m q) = 0)) ∧ (w 4 0 < wf 4 0 ∧ wf 5 (w 4 0) = x ∧ wf 6 (w 4 0) = q - p ∧ wf 7 (w 4 0) = w 0 0 ∧ wf 8 (w 4 0) = p) ∧
    (q = n → WT m n full (wcd w x p (n - p)) b n ∧ RN m n full po wi wf (wcd w x p (n - p)) n) ∧
    (q < n → WT m n full (wgr (wcd w x p (q - p)) full x (m q)) b q ∧ (wcl (wgr (wcd w x p (q - p)) full x (m q)) full po wi = true → RN m n full po wi wf (wu (wcd (wgr (wcd w x p (q - p)) full x (m q)) 8 0 0) 0 0 10) q) ∧ (¬ wcl (wgr (wcd w x p (q - p)) full x (m q)) full po wi = true → RN m n full po wi wf (wgr (wcd w x p (q - p)) full x (m q)) q)) := by
  obtain ⟨x, q, e, l1, l2, l3, l4, l5, l7, l6⟩ := wt_code hm hT hp
  have en : wnx m n w p = q := by unfold wnx; rw [e]
  have hS := RN_step hR hp (by rw [en]; exact l3)
  have hst : wst m n full po wi w p = if q < n then wdc (wgr (wcd w x p (q - p)) full x (m q)) full po wi else wcd w x p (q - p) := by
    unfold wst
    rw [e]
  rw [en] at hS
  have hk1 : kp (wcd w x p (q - p)) wf := by
    have h1 := (RN_kp hS).1
    rw [hst] at h1
    by_cases c : q < n
    · rw [if_pos c] at h1
      refine ((kp_wgr (wcd w x p (q - p)) full x (m q)).tr ?_).tr h1
      unfold wdc
      by_cases c2 : wcl (wgr (wcd w x p (q - p)) full x (m q)) full po wi = true
      · rw [if_pos c2]; exact kp_clr _
      · rw [if_neg c2]; exact kp.rf _
    · rw [if_neg c] at h1; exact h1
  refine ⟨x, q, ⟨l1, l2, l3, l4, l5, l7, l6⟩, ?_, fun c => ?_, fun c => ?_⟩
  · have h4 := hk1.1
    rw [wcd_4] at h4
    obtain ⟨a1, a2, a3, a4⟩ := hk1.2 (w 4 0) (by rw [wcd_4]; omega)
    rw [wcd_5, if_pos rfl] at a1
    rw [wcd_6, if_pos rfl] at a2
    rw [wcd_7, if_pos rfl] at a3
    rw [wcd_8, if_pos rfl] at a4
    exact ⟨by omega, a1, a2, a3, a4⟩
  · subst c
    rw [hst, if_neg (Nat.lt_irrefl _)] at hS
    exact ⟨wt_last hT hp, hS⟩
  · rw [hst, if_pos c] at hS
    refine ⟨wt_grow hfl hn hm hT l1 l2 l3 c l5 l7 (l6 c), fun c2 => ?_, fun c2 => ?_⟩
    · unfold wdc at hS
      rw [if_pos c2] at hS
      exact hS
    · unfold wdc at hS
      rw [if_neg c2] at hS
      exact hS
theorem tr_clear {m : Nat → Nat} {n full po wi p : Nat} {wf w : wS} (hR : RN m n full po wi wf (wu (wcd w 8 0 0) 0 0 10) p) : w 4 0 < wf 4 0 ∧ wf 5 (w 4 0) = 8 ∧ wf 6 (w 4 0) = 0 ∧ wf 7 (w 4 0) = w 0 0 ∧ kp w wf := by
  have h := (RN_kp hR).1
  have h4 := h.1
  have e4 : (wu (wcd w 8 0 0) 0 0 10) 4 0 = w 4 0 + 1 := by rw [wu_o (by decide), wcd_4]
  obtain ⟨a1, a2, a3, a4⟩ := h.2 (w 4 0) (by rw [e4]; omega)
  rw [wu_o (by decide), wcd_5, if_pos rfl] at a1
  rw [wu_o (by decide), wcd_6, if_pos rfl] at a2
  rw [wu_o (by decide), wcd_7, if_pos rfl] at a3
  exact ⟨by omega, a1, a2, a3, (kp_clr w).tr h⟩
theorem tr_start (m : Nat → Nat) (n full po wi : Nat) : RN m n full po wi (wfin m n full po wi) w0 0 := ⟨n + 1, by omega, rfl⟩
