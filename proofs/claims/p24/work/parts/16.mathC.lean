/-! children -/
theorem chs_snoc (hd la : Nat → Nat) (x s : Nat) : ∀ (d k : Nat), 0 < k → chs hd la x s (d + 1) k = if chs hd la x s d k = 0 then (if hd (k + d) = x ∧ la (k + d) = s then k + d else 0) else chs hd la x s d k
  | 0, k, hk => by simp [chs]
  | d + 1, k, hk => by
    rw [chs, chs_snoc hd la x s d (k + 1) (by omega), chs]
    by_cases h : hd k = x ∧ la k = s
    · rw [if_pos h, if_pos h, if_neg (by omega)]
    · rw [if_neg h, if_neg h, show k + 1 + d = k + (d + 1) by omega]
theorem chs_cong {hd la hd' la' : Nat → Nat} {x s : Nat} : ∀ {d k : Nat}, (∀ j, k ≤ j → j < k + d → hd j = hd' j ∧ la j = la' j) → chs hd la x s d k = chs hd' la' x s d k
  | 0, k, _ => rfl
  | d + 1, k, h => by
    rw [chs, chs, (h k (by omega) (by omega)).1, (h k (by omega) (by omega)).2, chs_cong (fun j h1 h2 => h j (by omega) (by omega))]
theorem chs_in {hd la : Nat → Nat} {x s : Nat} : ∀ {d k : Nat}, ¬ chs hd la x s d k = 0 → k ≤ chs hd la x s d k ∧ chs hd la x s d k < k + d ∧ hd (chs hd la x s d k) = x ∧ la (chs hd la x s d k) = s
  | 0, k, h => absurd rfl h
  | d + 1, k, h => by
    rw [chs] at h ⊢
    by_cases c : hd k = x ∧ la k = s
    · rw [if_pos c] at h ⊢
      exact ⟨Nat.le_refl _, by omega, c.1, c.2⟩
    · rw [if_neg c] at h ⊢
      obtain ⟨h1, h2, h3, h4⟩ := chs_in h
      exact ⟨by omega, by omega, h3, h4⟩
theorem chs_no {hd la : Nat → Nat} {x s : Nat} : ∀ {d k : Nat}, (∀ j, k ≤ j → j < k + d → ¬ (hd j = x ∧ la j = s)) → chs hd la x s d k = 0
  | 0, k, _ => rfl
  | d + 1, k, h => by
    rw [chs, if_neg (h k (by omega) (by omega)), chs_no (fun j h1 h2 => h j (by omega) (by omega))]
theorem chl_in {w : wS} (hW : WB w) {x s : Nat} (h : ¬ chl w x s = 0) : 10 ≤ chl w x s ∧ chl w x s < w 0 0 ∧ w 1 (chl w x s) = x ∧ w 2 (chl w x s) = s := by
  obtain ⟨h1, h2, h3, h4⟩ := chs_in h
  have := hW.1
  have h5 : chl w x s < 10 + (w 0 0 - 10) := h2
  exact ⟨h1, by omega, h3, h4⟩
/-! the longest match -/
theorem lm_ok {w : wS} (hW : WB w) (m : Nat → Nat) (n p : Nat) : ∀ (d x q : Nat), n ≤ q + d → q ≤ n → p ≤ q → x < w 0 0 → ¬ (x = 8 ∨ x = 9) → szf w x = q - p →
    (lm w m n d x q).1 < w 0 0 ∧ ¬ ((lm w m n d x q).1 = 8 ∨ (lm w m n d x q).1 = 9) ∧ q ≤ (lm w m n d x q).2 ∧ (lm w m n d x q).2 ≤ n ∧ szf w (lm w m n d x q).1 = (lm w m n d x q).2 - p ∧ ((lm w m n d x q).2 < n → chl w (lm w m n d x q).1 (m (lm w m n d x q).2) = 0)
  | 0, x, q, h1, h2, h3, h4, h5, h6 => ⟨h4, h5, Nat.le_refl _, h2, h6, fun h => by simp only [lm] at h; omega⟩
  | d + 1, x, q, h1, h2, h3, h4, h5, h6 => by
    rw [lm]
    by_cases c : q < n ∧ ¬ chl w x (m q) = 0
    · rw [if_pos c]
      obtain ⟨g1, g2, g3, g4⟩ := chl_in hW c.2
      have g5 := (hW.2.2 _ g1 g2)
      have hs : szf w (chl w x (m q)) = (q + 1) - p := by
        rw [show szf w (chl w x (m q)) = w 3 (chl w x (m q)) by unfold szf; rw [if_neg (by omega), if_neg (by omega)], g5.2.2.2, g3, h6]
        omega
      obtain ⟨r1, r2, r3, r4, r5, r6⟩ := lm_ok hW m n p d (chl w x (m q)) (q + 1) (by omega) (by omega) (by omega) g2 (by omega) hs
      exact ⟨r1, r2, by omega, r4, r5, r6⟩
    · rw [if_neg c]
      refine ⟨h4, h5, Nat.le_refl _, h2, h6, fun h => ?_⟩
      by_cases z : chl w x (m q) = 0
      · exact z
      · exact absurd ⟨h, z⟩ c
/-- the signs of a message, as a State holds them -/
def SG (S : xSt) (o1 : Nat) (m : Nat → Nat) (n : Nat) : Prop := ∀ j, j < n → S 23 o1 j = nI (m j) ∧ m j < 8
theorem f0_long_ok {S : xSt} {o o1 : Nat} {w : wS} {m : Nat → Nat} {n : Nat} (hB : CB S o w) (hW : WB w) (hS : SG S o1 m n) (hn : n ≤ 240) : ∀ (d f x q : Nat), n ≤ q + d → q ≤ n → d < f → x < w 0 0 → ¬ (x = 8 ∨ x = 9) →
    f0_longestAt_L10 o o1 f S (nI n) (nI x) (nI q) = some (S, some (.int (nI (lm w m n d x q).1)))
  | d, 0, x, q, _, _, h, _, _ => absurd h (Nat.not_lt_zero d)
  | d, f + 1, x, q, h1, h2, h3, h4, h5 => by
    show b0_longestAt_L10 o o1 (f0_longestAt_L10 o o1 f) S (nI n) (nI x) (nI q) = _
    unfold b0_longestAt_L10
    by_cases hq : q < n
    · have hw := hW.2.1
      rw [if_neg (nI_ge hq (by omega)), xat_ok (by omega) (by decide), (hS q hq).1]
      have hidx : nI x * 8 + nI (m q) = nI (x * 8 + m q) := by rw [show (8 : Int32) = nI 8 from rfl, pk_mul, nI_add]
      have hm := (hS q hq).2
      rw [hidx, xat_ok (by omega) (by decide), hB.2.2.2 x (m q) h4 hm]
      match d, h1, h3 with
      | 0, h1, h3 => omega
      | d + 1, h1, h3 =>
        rw [lm]
        by_cases c : chl w x (m q) = 0
        · rw [if_pos (by rw [c]; rfl), if_neg (fun z => z.2 c)]
        · obtain ⟨g1, g2, g3, g4⟩ := chl_in hW c
          have hc : ¬ nI (chl w x (m q)) = 0 := fun z => c (nI_inj (b := 0) (by omega) (by decide) z)
          rw [if_neg hc, if_pos ⟨hq, c⟩, nI_1]
          exact f0_long_ok hB hW hS hn d f (chl w x (m q)) (q + 1) (by omega) (by omega) (by omega) g2 (by omega)
    · rw [if_pos (nI_le (by omega) (by omega))]
      have : q = n := by omega
      subst this
      cases d with
      | zero => rfl
      | succ d => rw [lm, if_neg (by omega)]
theorem f0_longestAt_ok {S : xSt} {o o1 : Nat} {w : wS} {m : Nat → Nat} {n p : Nat} (hB : CB S o w) (hW : WB w) (hS : SG S o1 m n) (hn : n ≤ 240) (hp : p < n) :
    f0_longestAt S o o1 (nI p) (nI n) = some (S, some (.int (nI (lm w m n n (m p) (p + 1)).1))) := by
  unfold f0_longestAt
  rw [xat_ok (by omega) (by decide), (hS p hp).1, nI_1]
  have hm := (hS p hp).2
  have := hW.1
  exact f0_long_ok hB hW hS hn n xFU (m p) (p + 1) (by omega) (by omega) (by show n < 1000000; omega) (by omega) (by omega)
/-! a phrase is added -/
theorem wad_0 (w : wS) (x s : Nat) : (wad w x s) 0 0 = w 0 0 + 1 := by simp [wad, wu_o, wu_s]
theorem wad_1 (w : wS) (x s k : Nat) : (wad w x s) 1 k = if k = w 0 0 then x else w 1 k := by simp [wad, wu_o, wu_s]
theorem wad_2 (w : wS) (x s k : Nat) : (wad w x s) 2 k = if k = w 0 0 then s else w 2 k := by simp [wad, wu_o, wu_s]
theorem wad_3 (w : wS) (x s k : Nat) : (wad w x s) 3 k = if k = w 0 0 then szf w x + 1 else w 3 k := by simp [wad, wu_o, wu_s]
theorem wad_4 (w : wS) (x s : Nat) : (wad w x s) 4 = w 4 := by simp [wad, wu_o]
theorem wad_5 (w : wS) (x s : Nat) : (wad w x s) 5 = w 5 := by simp [wad, wu_o]
theorem wad_6 (w : wS) (x s : Nat) : (wad w x s) 6 = w 6 := by simp [wad, wu_o]
theorem wad_7 (w : wS) (x s : Nat) : (wad w x s) 7 = w 7 := by simp [wad, wu_o]
theorem wad_8 (w : wS) (x s : Nat) : (wad w x s) 8 = w 8 := by simp [wad, wu_o]
theorem wad_9 (w : wS) (x s : Nat) : (wad w x s) 9 0 = max (w 9 0) (szf w x + 1) := by simp [wad, wu_o, wu_s]
theorem wad_10 (w : wS) (x s : Nat) : (wad w x s) 10 0 = w 4 0 := by simp [wad, wu_s]
theorem wad_szf (w : wS) (x s k : Nat) (hk : k < w 0 0) : szf (wad w x s) k = szf w k := by
  unfold szf
  rw [wad_3, if_neg (show ¬ k = w 0 0 by omega)]
theorem wad_chl {w : wS} (hW : WB w) {x s : Nat} (hx : x < w 0 0) (hc : chl w x s = 0) (y t : Nat) : chl (wad w x s) y t = if y = x ∧ t = s then w 0 0 else chl w y t := by
  have h1 := hW.1
  unfold chl
  rw [wad_0, show w 0 0 + 1 - 10 = (w 0 0 - 10) + 1 by omega, chs_snoc _ _ _ _ _ _ (by decide)]
  have e1 : ∀ y t, chs ((wad w x s) 1) ((wad w x s) 2) y t (w 0 0 - 10) 10 = chs (w 1) (w 2) y t (w 0 0 - 10) 10 := fun y t => chs_cong (fun j h1 h2 => by rw [wad_1, wad_2, if_neg (by omega), if_neg (by omega)]; exact ⟨rfl, rfl⟩)
  rw [e1, show 10 + (w 0 0 - 10) = w 0 0 by omega, wad_1, wad_2, if_pos rfl, if_pos rfl]
  by_cases c : y = x ∧ t = s
  · obtain ⟨rfl, rfl⟩ := c
    have hc : chs (w 1) (w 2) y t (w 0 0 - 10) 10 = 0 := hc
    rw [if_pos hc, if_pos ⟨rfl, rfl⟩, if_pos ⟨rfl, rfl⟩]
  · rw [if_neg c]
    by_cases z : chs (w 1) (w 2) y t (w 0 0 - 10) 10 = 0
    · rw [if_pos z, if_neg (fun q => c ⟨q.1.symm, q.2.symm⟩), z]
    · rw [if_neg z]
theorem chl_new {w : wS} (hW : WB w) (t : Nat) : chl w (w 0 0) t = 0 := chs_no (fun j h1 h2 h => by
  have := hW.1
  have := (hW.2.2 j h1 (by omega)).1
  omega)
theorem wad_WB {w : wS} (hW : WB w) {x s : Nat} (hx : x < w 0 0) (hx2 : ¬ (x = 8 ∨ x = 9)) (hs : s < 8) (he : w 0 0 < 512) : WB (wad w x s) := by
  obtain ⟨h1, h2, h3⟩ := hW
  refine ⟨by rw [wad_0]; omega, by rw [wad_0]; omega, fun k hk1 hk2 => ?_⟩
  rw [wad_0] at hk2
  rw [wad_1, wad_2, wad_3]
  by_cases c : k = w 0 0
  · simp only [if_pos c]
    exact ⟨by omega, hx2, hs, by rw [wad_szf w x s x hx]⟩
  · simp only [if_neg c]
    obtain ⟨g1, g2, g3, g4⟩ := h3 k hk1 (by omega)
    exact ⟨g1, g2, g3, by rw [wad_szf w x s _ (by omega)]; exact g4⟩
theorem CB_12 {S : xSt} {o : Nat} {w : wS} (hB : CB S o w) {x : Nat} (hx : x < w 0 0) : S 12 o x = nI (szf w x) := by
  unfold szf
  by_cases h : x < 10
  · rw [(hB.2.1 x h).2.2]
    by_cases h8 : x < 8
    · rw [if_pos h8, if_pos h8]; rfl
    · rw [if_neg h8, if_neg h8, if_pos h]; rfl
  · rw [if_neg (by omega), if_neg h]
    exact (hB.2.2.1 x (by omega) hx).2.2
theorem f0_addPhrase_ok {S : xSt} {o : Nat} {w : wS} {x s : Nat} (hB : CB S o w) (hW : WB w) (hx : x < w 0 0) (hx2 : ¬ (x = 8 ∨ x = 9)) (hs : s < 8) (he : w 0 0 < 512) (hc : chl w x s = 0) :
    ∃ S', f0_addPhrase S o (nI x) (nI s) = some (S', none) ∧ CB S' o (wad w x s) ∧ (∀ i, S' 5 o i = S 5 o i) ∧ (∀ t, t ∈ [25, 26, 27, 28, 29] → S' t = S t) ∧ Fr (PW o) S S' := by
  obtain ⟨b1, b2, b3, b4⟩ := id hB
  have hlt : S 0 o 4 < (512 : Int32) := by rw [b1]; exact nI_lt (b := 512) he (by decide)
  have hidx : nI x * 8 + nI s = nI (x * 8 + s) := by rw [show (8 : Int32) = nI 8 from rfl, pk_mul, nI_add]
  have hm1 : nI (w 0 0) * 8 = nI (w 0 0 * 8) := by rw [show (8 : Int32) = nI 8 from rfl, pk_mul]
  have hm2 : (nI (w 0 0) + 1) * 8 = nI ((w 0 0 + 1) * 8) := by rw [show (8 : Int32) = nI 8 from rfl, nI_1, pk_mul]
  have hfill : ∀ T : xSt, ffill4 T 13 o 4096 (nI (w 0 0 * 8)) (nI ((w 0 0 + 1) * 8)) 0 = some (xua T 13 o (fun j => if w 0 0 * 8 ≤ j ∧ j < (w 0 0 + 1) * 8 then 0 else T 13 o j), none) := by
    intro T
    unfold ffill4 xne
    rw [if_pos ⟨nI_le (by omega) (by omega), nI_pos' (by omega), nI_le (by omega) (by decide)⟩, nI_clamp (by omega), nI_clamp (by omega)]
  have hx12 := CB_12 hB hx
  refine ⟨xup (xua (xup (xup (xup (xup S 10 o (w 0 0) (nI x)) 11 o (w 0 0) (nI s)) 12 o (w 0 0) (nI (szf w x) + 1)) 13 o (x * 8 + s) (nI (w 0 0))) 13 o (fun j => if w 0 0 * 8 ≤ j ∧ j < (w 0 0 + 1) * 8 then 0 else (xup (xup (xup (xup S 10 o (w 0 0) (nI x)) 11 o (w 0 0) (nI s)) 12 o (w 0 0) (nI (szf w x) + 1)) 13 o (x * 8 + s) (nI (w 0 0))) 13 o j)) 0 o 4 (nI (w 0 0) + 1), ?_, ?_, ?_, ?_, ?_⟩
  · unfold f0_addPhrase
    rw [if_pos hlt]
    simp (disch := decide) only [xlet, xup_o, xup_s, b1, xat_ok (n := 512) he (by decide), xat_ok (i := x) (n := 512) (Nat.lt_trans hx he) (by decide), hidx, xat_ok (i := x * 8 + s) (n := 4096) (by omega) (by decide), hm1, hm2, hfill, xbV, xua_o, hx12]
  · refine ⟨?_, ?_, ?_, ?_⟩
    · rw [xup_s, if_pos rfl, wad_0, nI_1]
    · intro k hk
      have : ¬ k = w 0 0 := by have := hW.1; omega
      simp (disch := decide) only [xup_o, xua_o, xup_s, if_neg this]
      exact b2 k hk
    · intro k hk1 hk2
      rw [wad_0] at hk2
      simp (disch := decide) only [xup_o, xua_o, xup_s, wad_1, wad_2, wad_3]
      by_cases c : k = w 0 0
      · simp only [if_pos c]; exact ⟨trivial, trivial, nI_1 _⟩
      · simp only [if_neg c]; exact b3 k hk1 (by omega)
    · intro y t hy ht
      rw [wad_0] at hy
      simp (disch := decide) only [xup_o, xua_s, xup_s]
      rw [wad_chl hW hx hc]
      by_cases c : y = w 0 0
      · rw [if_pos (by subst c; omega), if_neg (by omega), c, chl_new hW]; rfl
      · rw [if_neg (by omega)]
        by_cases c2 : y = x ∧ t = s
        · rw [if_pos c2, if_pos (by rw [c2.1, c2.2])]
        · rw [if_neg c2, if_neg (by omega)]
          exact b4 y t (by omega) ht
  · intro i
    simp (disch := decide) only [xup_o, xua_o]
  · intro t ht
    have : ¬ t = 0 ∧ ¬ t = 13 ∧ ¬ t = 12 ∧ ¬ t = 11 ∧ ¬ t = 10 := by
      simp only [List.mem_cons, List.not_mem_nil, or_false] at ht
      omega
    rw [xup_o this.1, xua_o this.2.1, xup_o this.2.1, xup_o this.2.2.1, xup_o this.2.2.2.1, xup_o this.2.2.2.2]
  · exact (((((Fr.rf.up (by simp [PW])).up (by simp [PW])).up (by simp [PW])).up (by simp [PW])).ua (by simp [PW])).up (by simp [PW])
