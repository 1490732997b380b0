/-! the reference's book and codes -/
theorem xlet_eq (v : xSt) (k : xSt → Option xR) : xlet v k = k v := rfl
/-- what writing leaves alone in the reference: all but its book, its codes, entries, codes, longest -/
def FM (S S' : xSt) : Prop := (∀ t o, ¬ (o = 0 ∧ (t = 7 ∨ (38 ≤ t ∧ t ≤ 46))) → S' t o = S t o) ∧ ∀ i, ¬ i = 11 → ¬ i = 17 → ¬ i = 18 → S' 7 0 i = S 7 0 i
theorem FM.rf {S : xSt} : FM S S := ⟨fun _ _ _ => rfl, fun _ _ _ _ => rfl⟩
theorem FM.tr {S S' S'' : xSt} (h : FM S S') (h2 : FM S' S'') : FM S S'' := ⟨fun t o hp => (h2.1 t o hp).trans (h.1 t o hp), fun i a b c => (h2.2 i a b c).trans (h.2 i a b c)⟩
theorem FM.up {S S' : xSt} (h : FM S S') {t i : Nat} {v : Int32} (hp : 38 ≤ t ∧ t ≤ 46) : FM S (xup S' t 0 i v) := by
  refine ⟨fun t' o' hp' => ?_, fun j a b c => ?_⟩
  · by_cases he : t' = t ∧ o' = 0
    · exact absurd ⟨he.2, Or.inr (by omega)⟩ hp'
    · simp only [xup, xua]; rw [if_neg he]; exact h.1 t' o' hp'
  · rw [xup_o (by omega)]; exact h.2 j a b c
theorem FM.up7 {S S' : xSt} (h : FM S S') {i : Nat} {v : Int32} (hp : i = 11 ∨ i = 17 ∨ i = 18) : FM S (xup S' 7 0 i v) := by
  refine ⟨fun t' o' hp' => ?_, fun j a b c => ?_⟩
  · by_cases he : t' = 7 ∧ o' = 0
    · exact absurd ⟨he.2, Or.inl he.1⟩ hp'
    · simp only [xup, xua]; rw [if_neg he]; exact h.1 t' o' hp'
  · rw [xup_s, if_neg (by omega)]; exact h.2 j a b c
def BM (S : xSt) (n : Nat) : Prop := ∀ k, k < n → S 38 0 k = -6 ∧ S 39 0 k = (if k < 8 then nI k else -6) ∧ S 40 0 k = (if k < 8 then nI k else -6) ∧ S 41 0 k = (if k < 8 then 1 else 0)
def MB (S : xSt) (w : wS) : Prop := S 7 0 11 = nI (w 0 0) ∧ BM S 10 ∧ ∀ k, 10 ≤ k → k < w 0 0 → S 38 0 k = nI (w 1 k) ∧ S 39 0 k = nI (w 2 k) ∧ S 41 0 k = nI (w 3 k)
def MC (S : xSt) (w : wS) : Prop := S 7 0 17 = nI (w 4 0) ∧
  (∀ i, i < w 4 0 → S 42 0 i = nI (w 5 i) ∧ S 43 0 i = nI (wid (w 7 i)) ∧ S 44 0 i = plv (w 5 i) (w 8 i) ∧ S 45 0 i = nI (w 6 i) ∧ S 46 0 i = nI (w 7 i)) ∧ S 7 0 18 = nI (w 9 0)
theorem f7_begin_step (f : Nat) {S : xSt} {i : Nat} (hi : i < 10) (hb : BM S i) : ∃ S', f7_beginBook_L8 (f + 1) S (nI i) = f7_beginBook_L8 f S' (nI (i + 1)) ∧ BM S' (i + 1) ∧ S' 7 = S 7 ∧ (∀ t, ¬ (38 ≤ t ∧ t ≤ 41) → S' t = S t) ∧ FM S S' := by
  have key : ∀ a b : Int32, (a = if i < 8 then nI i else -6) → (b = if i < 8 then 1 else 0) → BM (xup (xup (xup (xup S 38 0 i (-6)) 39 0 i a) 40 0 i a) 41 0 i b) (i + 1) := by
    intro a b ha hb2 k hk
    simp (disch := decide) only [xup_o, xup_s]
    by_cases c : k = i
    · subst c
      simp only [if_true]
      exact ⟨trivial, ha, ha, hb2⟩
    · simp only [if_neg c]
      exact hb k (by omega)
  have fr : ∀ a b : Int32, FM S (xup (xup (xup (xup S 38 0 i (-6)) 39 0 i a) 40 0 i a) 41 0 i b) := fun a b => (((FM.rf.up (by decide)).up (by decide)).up (by decide)).up (by decide)
  have o : ∀ (a b : Int32) (t : Nat), ¬ (38 ≤ t ∧ t ≤ 41) → (xup (xup (xup (xup S 38 0 i (-6)) 39 0 i a) 40 0 i a) 41 0 i b) t = S t := fun a b t ht => by
    rw [xup_o (by omega), xup_o (by omega), xup_o (by omega), xup_o (by omega)]
  have h10 : ¬ ((10 : Int32) ≤ nI i) := nI_ge (a := i) (b := 10) hi (by decide)
  have h8 : ((8 : Int32) ≤ nI i) ↔ 8 ≤ i := nI_leI (a := 8) (b := i) (by decide) (by omega)
  have hx := fun k => xat_ok (i := i) (n := 512) (k := k) (by omega) (by decide)
  by_cases c : 8 ≤ i
  · refine ⟨_, ?_, key (-6) 0 (by rw [if_neg (by omega)]) (by rw [if_neg (by omega)]), o (-6) 0 7 (by decide), o (-6) 0, fr (-6) 0⟩
    show b7_beginBook_L8 (f7_beginBook_L8 f) S (nI i) = _
    unfold b7_beginBook_L8
    rw [if_neg h10]
    simp (disch := decide) only [hx, xlet, if_pos (h8.mpr c), f7_beginBook_J39, f7_beginBook_J68, xup_s, if_true, nI_1]
  · refine ⟨_, ?_, key (nI i) 1 (by rw [if_pos (by omega)]) (by rw [if_pos (by omega)]), o (nI i) 1 7 (by decide), o (nI i) 1, fr (nI i) 1⟩
    show b7_beginBook_L8 (f7_beginBook_L8 f) S (nI i) = _
    unfold b7_beginBook_L8
    rw [if_neg h10]
    simp (disch := decide) only [hx, xlet, if_neg (fun q => c (h8.mp q)), f7_beginBook_J39, f7_beginBook_J68, xup_s, if_true, nI_1]
theorem f7_begin_loop : ∀ (d f : Nat) (S : xSt) (i : Nat), i + d = 10 → d < f → BM S i → ∃ S', f7_beginBook_L8 f S (nI i) = some (S', none) ∧ BM S' 10 ∧ S' 7 = S 7 ∧ (∀ t, ¬ (38 ≤ t ∧ t ≤ 41) → S' t = S t) ∧ FM S S'
  | d, 0, _, _, _, h, _ => absurd h (Nat.not_lt_zero d)
  | 0, f + 1, S, i, h1, h2, hb => by
    have : i = 10 := by omega
    subst this
    refine ⟨S, ?_, hb, rfl, fun _ _ => rfl, FM.rf⟩
    show b7_beginBook_L8 (f7_beginBook_L8 f) S (nI 10) = _
    unfold b7_beginBook_L8
    rw [if_pos (by decide)]
  | d + 1, f + 1, S, i, h1, h2, hb => by
    obtain ⟨S1, e1, hb1, h71, ho1, hF1⟩ := f7_begin_step f (by omega) hb
    obtain ⟨S2, e2, hb2, h72, ho2, hF2⟩ := f7_begin_loop d f S1 (i + 1) (by omega) (by omega) hb1
    exact ⟨S2, by rw [e1, e2], hb2, by rw [h72, h71], fun t ht => by rw [ho2 t ht, ho1 t ht], hF1.tr hF2⟩
theorem f7_beginBook_ok (S : xSt) : ∃ S', f7_beginBook S = some (S', none) ∧ (∀ w : wS, w 0 0 = 10 → MB S' w) ∧ S' 7 0 17 = S 7 0 17 ∧ S' 7 0 18 = S 7 0 18 ∧ (∀ t, ¬ t = 7 → ¬ (38 ≤ t ∧ t ≤ 41) → S' t = S t) ∧ FM S S' := by
  obtain ⟨S1, e1, hb1, h71, ho1, hF1⟩ := f7_begin_loop 10 xFU (xup S 7 0 11 10) 0 (by omega) (by show 10 < 1000000; omega) (fun k hk => absurd hk (Nat.not_lt_zero k))
  refine ⟨S1, ?_, fun w hw => ⟨?_, hb1, fun k h1 h2 => by omega⟩, ?_, ?_, fun t h7 ht => by rw [ho1 t ht, xup_o h7], (FM.rf.up7 (Or.inl rfl)).tr hF1⟩
  · rw [show nI 0 = (0 : Int32) from rfl] at e1
    unfold f7_beginBook
    rw [xlet_eq]
    exact e1
  · rw [h71, xup_s, if_pos rfl, hw]; rfl
  · rw [h71, xup_s, if_neg (by decide)]
  · rw [h71, xup_s, if_neg (by decide)]
theorem f7_longer_loop {S : xSt} {w : wS} (hB : MB S w) (hW : WB w) {x s : Nat} (hx : x < 512) (hs : s < 8) : ∀ (d f k : Nat), k + d = w 0 0 → d < f → 10 ≤ k →
    f7_longer_L3 f S (nI x) (nI s) (nI k) = some (S, some (.int (if chs (w 1) (w 2) x s d k = 0 then -6 else nI (chs (w 1) (w 2) x s d k))))
  | d, 0, _, _, h, _ => absurd h (Nat.not_lt_zero d)
  | 0, f + 1, k, h1, h2, h3 => by
    show b7_longer_L3 (f7_longer_L3 f) S (nI x) (nI s) (nI k) = _
    unfold b7_longer_L3
    have := hW.2.1
    rw [if_pos (by rw [hB.1]; exact nI_le (by omega) (by omega)), chs, if_pos rfl]
  | d + 1, f + 1, k, h1, h2, h3 => by
    show b7_longer_L3 (f7_longer_L3 f) S (nI x) (nI s) (nI k) = _
    unfold b7_longer_L3
    have hw := hW.2.1
    obtain ⟨g1, g2, g3, g4⟩ := hW.2.2 k h3 (by omega)
    obtain ⟨m1, m2, m3⟩ := hB.2.2 k h3 (by omega)
    have ih := f7_longer_loop hB hW hx hs d f (k + 1) (by omega) (by omega) (by omega)
    rw [if_neg (by rw [hB.1]; exact nI_ge (by omega) (by omega)), xat_ok (by omega) (by decide), m1, chs]
    by_cases c1 : w 1 k = x
    · have e1 : nI (w 1 k) = nI x := by rw [c1]
      rw [if_pos e1, xat_ok (by omega) (by decide), m2]
      by_cases c2 : w 2 k = s
      · have e2 : nI (w 2 k) = nI s := by rw [c2]
        have hc : w 1 k = x ∧ w 2 k = s := ⟨c1, c2⟩
        rw [if_pos e2]
        simp only [if_pos hc]
        rw [if_neg (by omega)]
      · have hne : ¬ nI (w 2 k) = nI s := fun q => c2 (nI_inj (by omega) (by omega) q)
        have hc : ¬ (w 1 k = x ∧ w 2 k = s) := fun q => c2 q.2
        rw [if_neg hne]
        simp only [if_neg hc]
        rw [← ih, f7_longer_J33, nI_1]
    · have hne : ¬ nI (w 1 k) = nI x := fun q => c1 (nI_inj (by omega) (by omega) q)
      have hc : ¬ (w 1 k = x ∧ w 2 k = s) := fun q => c1 q.1
      rw [if_neg hne]
      simp only [if_neg hc]
      rw [← ih, f7_longer_J33, nI_1]
theorem f7_longer_ok {S : xSt} {w : wS} (hB : MB S w) (hW : WB w) {x s : Nat} (hx : x < 512) (hs : s < 8) : f7_longer S (nI x) (nI s) = some (S, some (.int (if chl w x s = 0 then -6 else nI (chl w x s)))) := by
  have h1 := hW.1
  have h2 := hW.2.1
  exact f7_longer_loop hB hW hx hs (w 0 0 - 10) xFU 10 (by omega) (by show w 0 0 - 10 < 1000000; omega) (Nat.le_refl _)
theorem MB_41 {S : xSt} {w : wS} (hB : MB S w) {x : Nat} (hx : x < w 0 0) : S 41 0 x = nI (szf w x) := by
  unfold szf
  by_cases h : x < 10
  · rw [(hB.2.1 x h).2.2.2]
    by_cases h8 : x < 8
    · rw [if_pos h8, if_pos h8]; rfl
    · rw [if_neg h8, if_neg h8, if_pos h]; rfl
  · rw [if_neg (by omega), if_neg h]
    exact (hB.2.2 x (by omega) hx).2.2
/-- a phrase is entered: also what it begins with -/
theorem f7_enter_ok {S : xSt} {w : wS} {x s : Nat} (hB : MB S w) (h10 : 10 ≤ w 0 0) (hx : x < w 0 0) (he : w 0 0 < 512) :
    ∃ S', f7_enterPhrase S (nI x) (nI s) = some (S', none) ∧ MB S' (wad w x s) ∧ S' 7 0 17 = S 7 0 17 ∧ S' 7 0 18 = S 7 0 18 ∧ (∀ t, ¬ t = 7 → ¬ (38 ≤ t ∧ t ≤ 41) → S' t = S t) ∧ (∀ k, S' 40 0 k = if k = w 0 0 then S 40 0 x else S 40 0 k) ∧ FM S S' := by
  have h11 := hB.1
  have h41 := MB_41 hB hx
  have hne : ¬ x = w 0 0 := by omega
  refine ⟨xup (xup (xup (xup (xup S 38 0 (w 0 0) (nI x)) 39 0 (w 0 0) (nI s)) 40 0 (w 0 0) (S 40 0 x)) 41 0 (w 0 0) (nI (szf w x) + 1)) 7 0 11 (nI (w 0 0) + 1), ?_, ⟨?_, ?_, ?_⟩, ?_, ?_, ?_, ?_, ?_⟩
  · unfold f7_enterPhrase
    simp (disch := decide) only [xlet, xup_o, xup_s, h11, xat_ok (i := w 0 0) (n := 512) he (by decide), xat_ok (i := x) (n := 512) (Nat.lt_trans hx he) (by decide), h41]
  · rw [xup_s, if_pos rfl, wad_0, nI_1]
  · intro k hk
    have : ¬ k = w 0 0 := by omega
    simp (disch := decide) only [xup_o, xup_s, if_neg this]
    exact hB.2.1 k hk
  · intro k hk1 hk2
    rw [wad_0] at hk2
    simp (disch := decide) only [xup_o, xup_s, wad_1, wad_2, wad_3]
    by_cases c : k = w 0 0
    · simp only [if_pos c]; exact ⟨trivial, trivial, nI_1 _⟩
    · simp only [if_neg c]; exact hB.2.2 k hk1 (by omega)
  · simp (disch := decide) only [xup_o, xup_s, if_neg]
  · simp (disch := decide) only [xup_o, xup_s, if_neg]
  · intro t h7 ht
    rw [xup_o h7, xup_o (by omega), xup_o (by omega), xup_o (by omega), xup_o (by omega)]
  · intro k
    simp (disch := decide) only [xup_o, xup_s]
  · exact ((((FM.rf.up (by decide)).up (by decide)).up (by decide)).up (by decide)).up7 (Or.inl rfl)
theorem f7_wbits (f : Nat) (S : xSt) (a b c : Int32) {e w : Nat} (he : S 7 0 11 = nI e) (h1 : 1 ≤ e) (h2 : e ≤ 512) (hw : w < 32) :
    f7_writeCode_L3 (f + 1) S a b c (nI w) = if (e - 1) / 2 ^ w = 0 then f7_writeCode_J21 S a b c (nI w) else f7_writeCode_L3 f S a b c (nI (w + 1)) := by
  show b7_writeCode_L3 (f7_writeCode_L3 f) S a b c (nI w) = _
  unfold b7_writeCode_L3
  have e1 : nI e - 1 = nI (e - 1) := pk_sub (a := e) (b := 1) h1
  have hb : (e - 1) / 2 ^ w < 2 ^ 31 := Nat.lt_of_le_of_lt (Nat.div_le_self _ _) (by omega)
  rw [he, e1, shr_nI (by omega) hw, nI_1]
  by_cases z : (e - 1) / 2 ^ w = 0
  · rw [if_pos z, if_pos (by rw [z]; decide)]
  · rw [if_neg z, if_neg (nI_nle (Nat.pos_of_ne_zero z) hb)]
theorem f7_writeCode_ok {S : xSt} {w : wS} {x p k : Nat} (hB : MB S w) (hC : MC S w) (h10 : 10 ≤ w 0 0) (h512 : w 0 0 ≤ 512) (hc : w 4 0 < 300) :
    ∃ S', f7_writeCode S (nI x) (plv x p) (nI k) = some (S', none) ∧ MB S' (wcd w x p k) ∧ MC S' (wcd w x p k) ∧ (∀ t, ¬ t = 7 → ¬ (42 ≤ t ∧ t ≤ 46) → S' t = S t) ∧ FM S S' := by
  obtain ⟨c1, c2, c3⟩ := hC
  have h11 := hB.1
  have hbits : f7_writeCode S (nI x) (plv x p) (nI k) = f7_writeCode_J21 S (nI x) (plv x p) (nI k) (nI (wid (w 0 0))) := by
    unfold f7_writeCode
    show f7_writeCode_L3 (999994 + 1 + 1 + 1 + 1 + 1 + 1) S _ _ _ (nI 4) = _
    unfold wid
    rw [f7_wbits _ S _ _ _ h11 (by omega) h512 (by decide)]
    by_cases z1 : w 0 0 ≤ 16
    · rw [if_pos z1, if_pos (by omega)]
    rw [if_neg z1, if_neg (by omega), f7_wbits _ S _ _ _ h11 (by omega) h512 (by decide)]
    by_cases z2 : w 0 0 ≤ 32
    · rw [if_pos z2, if_pos (by omega)]
    rw [if_neg z2, if_neg (by omega), f7_wbits _ S _ _ _ h11 (by omega) h512 (by decide)]
    by_cases z3 : w 0 0 ≤ 64
    · rw [if_pos z3, if_pos (by omega)]
    rw [if_neg z3, if_neg (by omega), f7_wbits _ S _ _ _ h11 (by omega) h512 (by decide)]
    by_cases z4 : w 0 0 ≤ 128
    · rw [if_pos z4, if_pos (by omega)]
    rw [if_neg z4, if_neg (by omega), f7_wbits _ S _ _ _ h11 (by omega) h512 (by decide)]
    by_cases z5 : w 0 0 ≤ 256
    · rw [if_pos z5, if_pos (by omega)]
    rw [if_neg z5, if_neg (by omega), f7_wbits _ S _ _ _ h11 (by omega) h512 (by decide), if_pos (by omega)]
  refine ⟨xup (xup (xup (xup (xup (xup S 42 0 (w 4 0) (nI x)) 43 0 (w 4 0) (nI (wid (w 0 0)))) 44 0 (w 4 0) (plv x p)) 45 0 (w 4 0) (nI k)) 46 0 (w 4 0) (nI (w 0 0))) 7 0 17 (nI (w 4 0) + 1), ?_, ⟨?_, ?_, ?_⟩, ⟨?_, ?_, ?_⟩, ?_, ?_⟩
  · rw [hbits]
    unfold f7_writeCode_J21
    simp (disch := decide) only [xlet, xup_o, xup_s, xat_ok (n := 300) hc (by decide), c1, h11]
  · simp (disch := decide) only [xup_o, xup_s, if_neg, wcd_0]; exact h11
  · intro k hk
    simp (disch := decide) only [xup_o]
    exact hB.2.1 k hk
  · simp (disch := decide) only [xup_o, wcd_0, wcd_1, wcd_2, wcd_3]; exact hB.2.2
  · rw [xup_s, if_pos rfl, wcd_4, nI_1]
  · intro i hi
    rw [wcd_4] at hi
    simp (disch := decide) only [xup_o, xup_s, wcd_5, wcd_6, wcd_7, wcd_8]
    by_cases h : i = w 4 0
    · simp only [if_pos h]; exact ⟨trivial, trivial, trivial, trivial, trivial⟩
    · simp only [if_neg h]
      exact c2 i (by omega)
  · simp (disch := decide) only [xup_o, xup_s, if_neg, wcd_9]; exact c3
  · intro t h7 ht
    rw [xup_o h7, xup_o (by omega), xup_o (by omega), xup_o (by omega), xup_o (by omega), xup_o (by omega)]
  · exact (((((FM.rf.up (by decide)).up (by decide)).up (by decide)).up (by decide)).up (by decide)).up7 (Or.inr (Or.inl rfl))
