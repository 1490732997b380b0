/-! areCodes: its loop -/
theorem lm_le (w : wS) (m : Nat → Nat) (n : Nat) : ∀ (d x q : Nat), q ≤ n → (lm w m n d x q).2 ≤ n
  | 0, _, _, h => h
  | d + 1, x, q, h => by
    rw [lm]
    by_cases c : q < n ∧ ¬ chl w x (m q) = 0
    · rw [if_pos c]; exact lm_le w m n d _ _ (by omega)
    · rw [if_neg c]; exact h
def WL (w : wS) : Prop := ∀ i, i < w 4 0 → w 6 i ≤ 240
theorem WL_wcd {w : wS} (h : WL w) (x p : Nat) {k : Nat} (hk : k ≤ 240) : WL (wcd w x p k) := by
  intro i hi
  rw [wcd_4] at hi
  rw [wcd_6]
  by_cases c : i = w 4 0
  · rw [if_pos c]; exact hk
  · rw [if_neg c]; exact h i (by omega)
theorem WL_wst {m : Nat → Nat} {n full po wi p : Nat} {w : wS} (h : WL w) (hn : n ≤ 240) (hp : p < n) : WL (wst m n full po wi w p) := by
  have hle := lm_le w m n n (m p) (p + 1) (by omega)
  unfold wst
  simp only
  generalize lm w m n n (m p) (p + 1) = r at hle
  have h1 := WL_wcd h r.1 p (k := r.2 - p) (by omega)
  by_cases c : r.2 < n
  · rw [if_pos c]
    have h2 : WL (wgr (wcd w r.1 p (r.2 - p)) full r.1 (m r.2)) := by
      unfold wgr
      by_cases c2 : (wcd w r.1 p (r.2 - p)) 0 0 < full
      · rw [if_pos c2]
        intro i hi
        rw [wad_4] at hi
        rw [wad_6]
        exact h1 i hi
      · rw [if_neg c2]; exact h1
    unfold wdc
    by_cases c3 : wcl (wgr (wcd w r.1 p (r.2 - p)) full r.1 (m r.2)) full po wi = true
    · rw [if_pos c3]
      have h3 := WL_wcd h2 8 0 (k := 0) (by decide)
      intro i hi
      rw [wu_o (by decide)] at hi ⊢
      exact h3 i hi
    · rw [if_neg c3]; exact h2
  · rw [if_neg c]; exact h1
theorem WL_wr {m : Nat → Nat} {n full po wi : Nat} (hn : n ≤ 240) : ∀ (d : Nat) (w : wS) (p : Nat), WL w → WL (wr m n full po wi d w p)
  | 0, w, _, h => h
  | d + 1, w, p, h => by
    rw [wr]
    by_cases c : p < n
    · rw [if_pos c]; exact WL_wr hn d _ _ (WL_wst h hn c)
    · rw [if_neg c]; exact h
theorem AV_len {a : Nat → Nat} (hA : AV a) : WL (wa a) := WL_wcd (WL_wr hA.2.2.2.1 _ w0 0 (fun i hi => absurd hi (by show ¬ i < 0; omega))) 9 0 (by decide)
/-- what the rows hold -/
def AC (S : xSt) (a : Nat → Nat) : Prop := QI S a ∧ ∀ i, i < (wa a) 4 0 → S 33 0 i = nI ((wa a) 5 i) ∧ S 33 1 i = plv ((wa a) 5 i) ((wa a) 8 i) ∧ S 33 2 i = nI ((wa a) 6 i)
/-- behind a code -/
theorem ac_last {S : xSt} {k134 : K14} {k p q n : Nat} (hk : k < 64) (h2 : S 33 2 k = nI (q - p)) (hpq : p ≤ q) (hq : n ≤ q) (hq2 : q ≤ 240) (i1 i3 i4 i5 i10 i11 i12 i13 i14 i15 i16 : Int32) :
    fW_areCodes_J501 k134 S i1 (nI n) i3 i4 i5 (nI p) i10 i11 i12 i13 i14 i15 i16 (nI k) = k134 S i1 (nI n) i3 i4 i5 (nI q) i10 i11 i12 i13 i14 i15 i16 (nI (k + 1)) := by
  unfold fW_areCodes_J501 fW_areCodes_J689
  rw [xat_ok hk (by decide), h2, nI_add, show p + (q - p) = q by omega, if_pos (nI_le hq (by omega)), nI_1]
theorem ac_grow {S : xSt} {k134 : K14} {m : Nat → Nat} {w : wS} {n full po wi p q x : Nat} (hk : w 4 0 < 64) (h2 : ∀ j, j ≤ w 4 0 → S 33 2 j = nI ((wgr (wcd w x p (q - p)) full x (m q)) 6 j) ∧ (wgr (wcd w x p (q - p)) full x (m q)) 6 j ≤ 240) (hpq : p < q) (hq : q < n) (hn : n ≤ 240) (hs : szf w x = q - p) (h9 : w 9 0 ≤ 240) (h10 : w 10 0 ≤ w 4 0) (he : w 0 0 ≤ full) (hfl : full ≤ 512) (hw : wi ≤ 32) (hpo : po ≤ 2) (i1 i10 i13 i14 i16 : Int32) :
    fW_areCodes_J501 k134 S i1 (nI n) (nI full) (nI po) (nI wi) (nI p) i10 (nI (w 0 0)) (nI (w 10 0)) i13 i14 (nI (w 9 0)) i16 (nI (w 4 0)) =
      k134 S i1 (nI n) (nI full) (nI po) (nI wi) (nI q) i10 (nI ((wgr (wcd w x p (q - p)) full x (m q)) 0 0)) (nI ((wgr (wcd w x p (q - p)) full x (m q)) 10 0)) i13 i14 (nI ((wgr (wcd w x p (q - p)) full x (m q)) 9 0)) (if wcl (wgr (wcd w x p (q - p)) full x (m q)) full po wi = true then 1 else 0) (nI (w 4 0 + 1)) := by
  have e6 : S 33 2 (w 4 0) = nI (q - p) := by
    rw [(h2 (w 4 0) (Nat.le_refl _)).1]
    unfold wgr
    by_cases c : (wcd w x p (q - p)) 0 0 < full
    · rw [if_pos c, wad_6, wcd_6, if_pos rfl]
    · rw [if_neg c, wcd_6, if_pos rfl]
  obtain ⟨w', hw'⟩ : ∃ w', w' = wgr (wcd w x p (q - p)) full x (m q) := ⟨_, rfl⟩
  rw [← hw'] at h2 ⊢
  have e4 : w' 4 0 = w 4 0 + 1 := by
    rw [hw']
    unfold wgr
    by_cases c : (wcd w x p (q - p)) 0 0 < full
    · rw [if_pos c, wad_4, wcd_4]
    · rw [if_neg c, wcd_4]
  have ew : w 0 0 < full → w' 0 0 = w 0 0 + 1 ∧ w' 10 0 = w 4 0 + 1 ∧ w' 9 0 = max (w 9 0) (q - p + 1) := by
    intro c
    have c' : (wcd w x p (q - p)) 0 0 < full := by rw [wcd_0]; exact c
    rw [hw']
    unfold wgr
    rw [if_pos c', wad_0, wad_10, wad_9, wcd_0, wcd_4, wcd_9, wcd_szf, hs]
    exact ⟨rfl, rfl, rfl⟩
  have ew2 : ¬ w 0 0 < full → w' 0 0 = w 0 0 ∧ w' 10 0 = w 10 0 ∧ w' 9 0 = w 9 0 := by
    intro c
    have c' : ¬ (wcd w x p (q - p)) 0 0 < full := by rw [wcd_0]; exact c
    rw [hw']
    unfold wgr
    rw [if_neg c', wcd_0, wcd_10, wcd_9]
    exact ⟨rfl, rfl, rfl⟩
  have hend : ∀ i15 : Int32, fW_areCodes_J590 k134 S i1 (nI n) (nI full) (nI po) (nI wi) (nI q) i10 (nI (w' 0 0)) i13 i14 i15 (nI (w 4 0)) (nI (w' 10 0)) = k134 S i1 (nI n) (nI full) (nI po) (nI wi) (nI q) i10 (nI (w' 0 0)) (nI (w' 10 0)) i13 i14 i15 (if wcl w' full po wi = true then 1 else 0) (nI (w 4 0 + 1)) := by
    intro i15
    have hb : w' 10 0 ≤ w' 4 0 ∧ w' 0 0 ≤ full := by
      by_cases c : w 0 0 < full
      · obtain ⟨a1, a2, a3⟩ := ew c; omega
      · obtain ⟨a1, a2, a3⟩ := ew2 c; omega
    have := ac_flag (S := S) (k134 := k134) (w := w') (full := full) (po := po) (wi := wi) (by omega) (fun j hj => h2 j (by omega)) (by omega) hw hpo hfl hb.2 hb.1 i1 (nI n) (nI q) i10 i13 i14 i15
    rw [e4, Nat.add_sub_cancel] at this
    exact this
  unfold fW_areCodes_J501
  rw [xat_ok hk (by decide), e6, nI_add, show p + (q - p) = q by omega, if_neg (nI_ge hq (by omega))]
  by_cases c : w 0 0 < full
  · obtain ⟨a1, a2, a3⟩ := ew c
    rw [if_neg (nI_ge c (by omega))]
    unfold fW_areCodes_J528
    rw [if_neg (by decide)]
    unfold fW_areCodes_J542
    rw [if_neg (by decide), xat_ok hk (by decide), e6, nI_1, nI_1, ← a1]
    by_cases c3 : q - p + 1 ≤ w 9 0
    · rw [if_pos (nI_le c3 (by omega))]
      unfold fW_areCodes_J572 fW_areCodes_J574
      have hq := hend (nI (w' 9 0))
      rw [a2] at hq ⊢
      rw [if_neg (by decide), nI_1, show w 9 0 = w' 9 0 by omega]
      exact hq
    · rw [if_neg (nI_ge (by omega) (by omega)), xat_ok hk (by decide), e6, nI_1]
      unfold fW_areCodes_J574
      have hq := hend (nI (w' 9 0))
      rw [a2] at hq ⊢
      rw [if_neg (by decide), nI_1, show q - p + 1 = w' 9 0 by omega]
      exact hq
  · obtain ⟨a1, a2, a3⟩ := ew2 c
    rw [if_pos (nI_le (by omega) (by omega))]
    unfold fW_areCodes_J528
    rw [if_pos rfl]
    unfold fW_areCodes_J542
    rw [if_pos rfl]
    unfold fW_areCodes_J572 fW_areCodes_J574
    rw [if_pos rfl, Int32.add_zero, ← a1, ← a2, ← a3]
    exact hend _
