/-! the codes are below 512; turning; how far signs are alike -/
def WC (w : wS) : Prop := ∀ i, i < w 4 0 → w 5 i < 512
theorem wcd_WC {w : wS} (h : WC w) {x : Nat} (hx : x < 512) (p k : Nat) : WC (wcd w x p k) := by
  intro i hi
  rw [wcd_4] at hi
  rw [wcd_5]
  by_cases c : i = w 4 0
  · rw [if_pos c]; exact hx
  · rw [if_neg c]; exact h i (by omega)
theorem wst_WC {m : Nat → Nat} {n full po wi p : Nat} {w : wS} (hC : WC w) (hW : WB w) (hef : w 0 0 ≤ full) (hfl : 16 ≤ full ∧ full ≤ 512) (hp : p < n) (hm : ∀ j, j < n → m j < 8) : WC (wst m n full po wi w p) := by
  have h10 := hW.1
  have hmp := hm p hp
  obtain ⟨l1, l2, l3, l4, l5, l6⟩ := lm_ok hW m n p n (m p) (p + 1) (by omega) (by omega) (by omega) (by omega) (by omega) (by unfold szf; rw [if_pos hmp]; omega)
  have h1 : WC (wcd w (lm w m n n (m p) (p + 1)).1 p ((lm w m n n (m p) (p + 1)).2 - p)) := wcd_WC hC (by omega) _ _
  have h2 : ∀ x s, WC (wgr (wcd w (lm w m n n (m p) (p + 1)).1 p ((lm w m n n (m p) (p + 1)).2 - p)) full x s) := by
    intro x s
    unfold wgr
    by_cases c : (wcd w (lm w m n n (m p) (p + 1)).1 p ((lm w m n n (m p) (p + 1)).2 - p)) 0 0 < full
    · rw [if_pos c]
      intro i hi
      rw [wad_4] at hi
      rw [wad_5]; exact h1 i hi
    · rw [if_neg c]; exact h1
  have h3 : ∀ v : wS, WC v → WC (wdc v full po wi) := by
    intro v hv
    unfold wdc
    by_cases c : wcl v full po wi = true
    · rw [if_pos c]
      intro i hi
      rw [wu_o (by decide)] at hi ⊢
      exact wcd_WC hv (by decide) 0 0 i hi
    · rw [if_neg c]; exact hv
  unfold wst
  by_cases c : (lm w m n n (m p) (p + 1)).2 < n
  · simp only [if_pos c]; exact h3 _ (h2 _ _)
  · simp only [if_neg c]; exact h1
theorem wr_WC {m : Nat → Nat} {n full po wi : Nat} (hfl : 16 ≤ full ∧ full ≤ 512) (hn : n ≤ 240) (hm : ∀ j, j < n → m j < 8) : ∀ (d : Nat) (w : wS) (p : Nat), WC w → WB w → w 0 0 ≤ full → WI w p → WC (wr m n full po wi d w p)
  | 0, w, p, hC, _, _, _ => hC
  | d + 1, w, p, hC, hW, hef, hI => by
    rw [wr]
    by_cases hp : p < n
    · rw [if_pos hp]
      obtain ⟨g1, g2, g3, g4, g5⟩ := wst_ok (po := po) (wi := wi) hW hef hfl hI hp hn hm
      exact wr_WC hfl hn hm d _ _ (wst_WC hC hW hef hfl hp hm) g1 g2 g3
    · rw [if_neg hp]; exact hC
theorem wfin_WC {m : Nat → Nat} {n full po wi : Nat} (hfl : 16 ≤ full ∧ full ≤ 512) (hn : n ≤ 240) (hm : ∀ j, j < n → m j < 8) : WC (wfin m n full po wi) := by
  rw [wfin_ok]
  exact wcd_WC (wr_WC hfl hn hm (n + 1) w0 0 (fun i hi => by simp [w0] at hi) w0_WB (by show 10 ≤ full; omega) w0_WI) (by decide) 0 0
theorem nI_xor {a b : Nat} (ha : a < 512) (hb : b < 512) : nI a ^^^ nI b = nI (a ^^^ b) ∧ a ^^^ b < 512 := by
  refine ⟨?_, Nat.xor_lt_two_pow (n := 9) ha hb⟩
  show Int32.ofNat a ^^^ Int32.ofNat b = Int32.ofNat (a ^^^ b)
  apply Int32.toBitVec_inj.mp
  rw [Int32.toBitVec_xor]
  show BitVec.ofNat 32 a ^^^ BitVec.ofNat 32 b = BitVec.ofNat 32 (a ^^^ b)
  exact (BitVec.ofNat_xor).symm
/-- how far f and g are alike, below b -/
def alk (f g : Nat → Nat) : Nat → Nat → Nat
  | 0, i => i
  | d + 1, i => if f i = g i then alk f g d (i + 1) else i
theorem alk_le (f g : Nat → Nat) : ∀ d i, i ≤ alk f g d i ∧ alk f g d i ≤ i + d
  | 0, i => ⟨Nat.le_refl _, Nat.le_refl _⟩
  | d + 1, i => by
    rw [alk]
    by_cases c : f i = g i
    · rw [if_pos c]; have := alk_le f g d (i + 1); omega
    · rw [if_neg c]; omega
theorem f3_alike_loop {o o1 g n : Nat} {f h : Nat → Nat} {S : xSt} (h1 : S 3 o 1 = nI g) (hf : ∀ i, i < g → S 19 o i = nI (f i) ∧ f i < 8) (hg : g ≤ 39621) (hh : ∀ i, i < n → S 23 o1 i = nI (h i) ∧ h i < 8) (hn : n ≤ 240) : ∀ (d F i : Nat), i + d = min g n → d < F →
    f3_firstDifference_L12 o o1 F S (nI n) (nI (min g n)) (nI i) = some (S, some (.int (if alk f h d i = g ∧ g = n then -6 else nI (alk f h d i))))
  | d, 0, i, _, h => absurd h (Nat.not_lt_zero _)
  | 0, F + 1, i, e, _ => by
    show b3_firstDifference_L12 o o1 (f3_firstDifference_L12 o o1 F) S (nI n) (nI (min g n)) (nI i) = _
    unfold b3_firstDifference_L12 f3_firstDifference_J41
    rw [if_pos (nI_le (by omega) (by omega)), h1, alk]
    by_cases c : g = n
    · rw [if_pos (by rw [c]), if_pos (by omega)]
    · have c2 : ¬ (i = g ∧ g = n) := fun q => c q.2
      rw [if_neg (fun q => c (nI_inj (by omega) (by omega) q)), if_neg c2, show min g n = i by omega]
  | d + 1, F + 1, i, e, hF => by
    show b3_firstDifference_L12 o o1 (f3_firstDifference_L12 o o1 F) S (nI n) (nI (min g n)) (nI i) = _
    unfold b3_firstDifference_L12
    obtain ⟨f1, f2⟩ := hf i (by omega)
    obtain ⟨g1, g2⟩ := hh i (by omega)
    rw [if_neg (nI_ge (by omega) (by omega)), xat_ok (by omega) (by decide), xat_ok (by omega) (by decide), f1, g1, alk]
    by_cases c : f i = h i
    · rw [if_pos (by rw [c]), if_pos c, nI_1]
      exact f3_alike_loop h1 hf hg hh hn d F (i + 1) (by omega) (by omega)
    · have c2 : ¬ (i = g ∧ g = n) := by omega
      rw [if_neg (fun q => c (nI_inj (by omega) (by omega) q)), if_neg c, if_neg c2]
theorem f3_first_ok {o o1 g n : Nat} {f h : Nat → Nat} {S : xSt} (h1 : S 3 o 1 = nI g) (hf : ∀ i, i < g → S 19 o i = nI (f i) ∧ f i < 8) (hg : g ≤ 39621) (hh : ∀ i, i < n → S 23 o1 i = nI (h i) ∧ h i < 8) (hn : n ≤ 240) :
    f3_firstDifference S o o1 (nI n) = some (S, some (.int (if alk f h (min g n) 0 = g ∧ g = n then -6 else nI (alk f h (min g n) 0)))) := by
  unfold f3_firstDifference
  have e : (if nI n < S 3 o 1 then nI n else S 3 o 1) = nI (min g n) := by
    rw [h1]
    by_cases c : n < g
    · rw [if_pos (nI_lt c (by omega)), show min g n = n by omega]
    · rw [if_neg (nI_nlt (by omega) (by omega)), show min g n = g by omega]
  rw [e]
  have := f3_alike_loop h1 hf hg hh hn (min g n) xFU 0 (by omega) (by show min g n < 1000000; omega)
  exact this
