/-! what holds between two commands -/
def mm (a : Nat → Nat) : Nat → Nat := fun j => a (10 + j)
def AV (a : Nat → Nat) : Prop := (4 ≤ a 0 ∧ a 0 ≤ 9) ∧ a 1 ≤ 2 ∧ (4 ≤ a 2 ∧ a 2 ≤ 32) ∧ a 3 ≤ 240 ∧ (∀ j, j < a 3 → a (10 + j) < 8) ∧ (∀ k, k < 281 → a (250 + k) < 512) ∧ ∀ k, 281 ≤ k → k < 310 → a (250 + k) = 0
def wa (a : Nat → Nat) : wS := wfin (mm a) (a 3) (2 ^ a 0) (a 1) (a 2)
def ca (a : Nat → Nat) (k : Nat) : Nat := (wa a) 5 k ^^^ a (250 + k)
def ra (a : Nat → Nat) : wS := rfin (ca a) ((wa a) 4 0) (2 ^ a 0)
def CV (S : xSt) (o : Nat) (a : Nat → Nat) : Prop := (∀ i, i < 3 → S 22 o i = nI (a i)) ∧ S 4 o 3 = nI (a 3) ∧ (∀ j, j < a 3 → S 23 o j = nI (a (10 + j))) ∧ ∀ k, k < 281 → S 24 o k = nI (a (250 + k))
def MV (S : xSt) (t b : Nat) (a : Nat → Nat) : Prop := ∀ i, i < 560 → (i < 4 ∨ (10 ≤ i ∧ i < 10 + a 3) ∨ 250 ≤ i) → S t 0 (b + i) = nI (a i)
def DV (S : xSt) (a : Nat → Nat) : Prop := CF S 0 (wa a) ∧ (∀ k, k < (wa a) 4 0 → S 32 0 k = nI (ca a k)) ∧ CE S 0 (ra a)
def CI (S : xSt) (T : wS) : Prop := CV S 0 (T 0) ∧ S 1 0 2 = nI (T 1 0) ∧ (∃ l, l < 6 ∧ S 1 0 1 = nI l ∧ ∀ j, j < T 1 0 → CV S (1 + (l + 7 + j - T 1 0) % 6) (T (2 + j))) ∧
  (∀ i, i < 2 → S 31 0 i = nI (T 1 (2 + i)) ∧ (T 1 (2 + i) = 1 → CV S (7 + i) (T (8 + i)))) ∧ S 2 0 4 = nI (T 1 1) ∧ (∀ j, j < T 1 1 → S 15 0 j = nI (T 10 j)) ∧ BS S 0 ∧ BS S 1 ∧ DV S (T 0)
def MI (S : xSt) (T : wS) : Prop := MV S 33 0 (T 0) ∧ S 7 0 2 = nI (T 1 0) ∧ (∀ j, j < T 1 0 → MV S 34 (560 * j) (T (2 + j))) ∧
  (∀ i, i < 2 → S 36 0 i = nI (T 1 (2 + i)) ∧ (T 1 (2 + i) = 1 → MV S 35 (560 * i) (T (8 + i)))) ∧ S 7 0 6 = nI (T 1 1) ∧ ∀ j, j < T 1 1 → S 37 0 j = nI (T 10 j)
def AI (T : wS) : Prop := AV (T 0) ∧ T 1 0 ≤ 6 ∧ (∀ j, j < T 1 0 → AV (T (2 + j))) ∧ (∀ i, i < 2 → T 1 (2 + i) ≤ 1 ∧ (T 1 (2 + i) = 1 → AV (T (8 + i)))) ∧ T 1 1 ≤ 80 ∧ ∀ j, j < T 1 1 → 33 ≤ T 10 j ∧ T 10 j ≤ 126
def Cfr (S S' : xSt) : Prop := ∀ t, (t = 7 ∨ 33 ≤ t) → S' t = S t
def Mfr (S S' : xSt) : Prop := ∀ t, ¬ t = 7 → t ≤ 32 → S' t = S t
theorem CI_fr {S S' : xSt} {T : wS} (h : CI S T) (hF : Mfr S S') : CI S' T := by
  unfold CI CV DV CF CE CB CC CR BS at h ⊢
  simp only [hF 0 (by decide) (by decide), hF 1 (by decide) (by decide), hF 2 (by decide) (by decide), hF 3 (by decide) (by decide), hF 4 (by decide) (by decide), hF 5 (by decide) (by decide), hF 10 (by decide) (by decide), hF 11 (by decide) (by decide), hF 12 (by decide) (by decide), hF 13 (by decide) (by decide), hF 15 (by decide) (by decide), hF 19 (by decide) (by decide), hF 20 (by decide) (by decide), hF 21 (by decide) (by decide), hF 22 (by decide) (by decide), hF 23 (by decide) (by decide), hF 24 (by decide) (by decide), hF 25 (by decide) (by decide), hF 26 (by decide) (by decide), hF 27 (by decide) (by decide), hF 28 (by decide) (by decide), hF 29 (by decide) (by decide), hF 31 (by decide) (by decide), hF 32 (by decide) (by decide)]
  exact h
theorem MI_fr {S S' : xSt} {T : wS} (h : MI S T) (hF : Cfr S S') : MI S' T := by
  unfold MI MV at h ⊢
  simp only [hF 7 (by decide), hF 33 (by decide), hF 34 (by decide), hF 35 (by decide), hF 36 (by decide), hF 37 (by decide)]
  exact h
/-- both answer alike, and all stays in step -/
def OKc (F6 F7 : xSt → Option xR) (T : wS) : Prop := ∃ (v : Int32) (T' : wS), AI T' ∧ (∀ S, CI S T → ∃ S', F6 S = some (S', some (.int v)) ∧ CI S' T' ∧ Cfr S S') ∧ ∀ S, MI S T → ∃ S', F7 S = some (S', some (.int v)) ∧ MI S' T' ∧ Mfr S S'
theorem OKc_use {F6 F7 : xSt → Option xR} {T : wS} (h : OKc F6 F7 T) {S : xSt} (hC : CI S T) (hM : MI S T) :
    ∃ (S1 S2 : xSt) (v : Int32) (T' : wS), F6 S = some (S1, some (.int v)) ∧ F7 S1 = some (S2, some (.int v)) ∧ AI T' ∧ CI S2 T' ∧ MI S2 T' := by
  obtain ⟨v, T', hA, h6, h7⟩ := h
  obtain ⟨S1, e1, c1, f1⟩ := h6 S hC
  obtain ⟨S2, e2, m2, f2⟩ := h7 S1 (MI_fr hM f1)
  exact ⟨S1, S2, v, T', e1, e2, hA, CI_fr c1 f2, m2⟩
/-! what the spec's vector gives -/
theorem AV_pow {a : Nat → Nat} (h : AV a) : 16 ≤ 2 ^ a 0 ∧ 2 ^ a 0 ≤ 512 := pow_in h.1.1 h.1.2
theorem AV_wfin {a : Nat → Nat} (h : AV a) : WB (wa a) ∧ (wa a) 0 0 ≤ 2 ^ a 0 ∧ 1 ≤ (wa a) 4 0 ∧ (wa a) 4 0 ≤ 281 ∧ (wa a) 9 0 ≤ 240 := wfin_in (AV_pow h) h.2.2.2.1 (fun j hj => h.2.2.2.2.1 j hj)
theorem AV_code {a : Nat → Nat} (h : AV a) {k : Nat} (hk : k < (wa a) 4 0) : (wa a) 5 k < 512 := wfin_WC (AV_pow h) h.2.2.2.1 (fun j hj => h.2.2.2.2.1 j hj) k hk
theorem AV_ca {a : Nat → Nat} (h : AV a) {k : Nat} (hk : k < (wa a) 4 0) : nI ((wa a) 5 k) ^^^ nI (a (250 + k)) = nI (ca a k) ∧ ca a k < 512 := nI_xor (AV_code h hk) (h.2.2.2.2.2.1 k (by have := (AV_wfin h).2.2.2.1; omega))
/-! refresh -/
def PD (t o' : Nat) : Bool := decide (o' = 0) && decide (t ∈ [0, 5, 10, 11, 12, 13, 25, 26, 27, 28, 29, 32, 3, 19, 20, 21])
theorem refresh_loop {a : Nat → Nat} (hA : AV a) : ∀ (d f k : Nat) (S : xSt), k + d = (wa a) 4 0 → d < f → S 5 0 6 = nI ((wa a) 4 0) → (∀ i, i < (wa a) 4 0 → S 25 0 i = nI ((wa a) 5 i)) → (∀ i, i < 281 → S 24 0 i = nI (a (250 + i))) → (∀ i, i < k → S 32 0 i = nI (ca a i)) →
    ∃ S', f6_refresh_L50 f S (nI k) = f6_refresh_J92 S' ∧ (∀ i, i < (wa a) 4 0 → S' 32 0 i = nI (ca a i)) ∧ Fr (fun t o => decide (t = 32) && decide (o = 0)) S S'
  | d, 0, _, _, _, h, _, _, _, _ => absurd h (Nat.not_lt_zero _)
  | 0, f + 1, k, S, e, _, h6, h25, h24, h32 => by
    have hk : k = (wa a) 4 0 := by omega
    subst hk
    refine ⟨S, ?_, h32, Fr.rf⟩
    show b6_refresh_L50 (f6_refresh_L50 f) S (nI ((wa a) 4 0)) = _
    unfold b6_refresh_L50
    have := (AV_wfin hA).2.2.2.1
    rw [h6, if_pos (nI_le (Nat.le_refl _) (by omega))]
  | d + 1, f + 1, k, S, e, hf, h6, h25, h24, h32 => by
    have hc := (AV_wfin hA).2.2.2.1
    obtain ⟨S', e1, g1, g2⟩ := refresh_loop hA d f (k + 1) (xup S 32 0 k (nI (ca a k))) (by omega) (by omega) (by rw [xup_o (by decide)]; exact h6) (fun i hi => by rw [xup_o (by decide)]; exact h25 i hi) (fun i hi => by rw [xup_o (by decide)]; exact h24 i hi) (fun i hi => by
      rw [xup_s]
      by_cases c : i = k
      · rw [if_pos c, c]
      · rw [if_neg c]; exact h32 i (by omega))
    refine ⟨S', ?_, g1, (Fr.rf.up (by simp)).tr g2⟩
    show b6_refresh_L50 (f6_refresh_L50 f) S (nI k) = _
    unfold b6_refresh_L50
    rw [h6, if_neg (nI_ge (by omega) (by omega)), xat_ok (by omega) (by decide), xat_ok (by omega) (by decide), xat_ok (by omega) (by decide), h25 k (by omega), h24 k (by omega), (AV_ca hA (by omega)).1, xlet_eq, nI_1]
    exact e1
theorem refresh_ok {S : xSt} {a : Nat → Nat} (hA : AV a) (hV : CV S 0 a) (hb : BS S 0) : ∃ S', f6_refresh S = some (S', none) ∧ DV S' a ∧ BS S' 0 ∧ Fr PD S S' := by
  obtain ⟨v1, v2, v3, v4⟩ := hV
  obtain ⟨⟨a1, a2⟩, a3, ⟨a4, a5⟩, a6, a7, a8, a9⟩ := id hA
  obtain ⟨S1, e1, hCF, hF1⟩ := f5_writeOut_ok (o := 0) (o1 := 0) (wd := a 0) (po := a 1) (wi := a 2) (m := mm a) (n := a 3) a1 a2 a6 a3 a5 hb (fun j hj => ⟨v3 j hj, a7 j hj⟩)
  have hCF' : CF S1 0 (wa a) := hCF
  obtain ⟨S2, e2, g1, hF2⟩ := refresh_loop hA ((wa a) 4 0) xFU 0 S1 (by omega) (by have := (AV_wfin hA).2.2.2.1; show _ < 1000000; omega) hCF'.2.1 (fun i hi => (hCF'.2.2.1 i hi).1) (fun i hi => by rw [hF1 24 0 (by decide)]; exact v4 i hi) (fun i hi => absurd hi (Nat.not_lt_zero i))
  obtain ⟨S3, e3, g2, hF3⟩ := f3_readAll_ok (S := S2) (o := 0) (o1 := 0) (n := (wa a) 4 0) (wd := a 0) (c := ca a) a1 a2 (AV_wfin hA).2.2.2.1 (fun j hj => ⟨g1 j hj, (AV_ca hA hj).2⟩)
  have hs : ∀ t, t ∈ [0, 5, 10, 11, 12, 13, 25, 26, 27, 28, 29] → S3 t 0 = S1 t 0 := by
    intro t ht
    simp only [List.mem_cons, List.mem_nil_iff, or_false] at ht
    rcases ht with rfl | rfl | rfl | rfl | rfl | rfl | rfl | rfl | rfl | rfl | rfl <;> rw [hF3 _ 0 (by decide), hF2 _ 0 (by decide)]
  have hCF3 : CF S3 0 (wa a) := by
    unfold CF CB CC at hCF' ⊢
    simp only [hs 0 (by decide), hs 5 (by decide), hs 10 (by decide), hs 11 (by decide), hs 12 (by decide), hs 13 (by decide), hs 25 (by decide), hs 26 (by decide), hs 27 (by decide), hs 28 (by decide), hs 29 (by decide)]
    exact hCF'
  refine ⟨S3, ?_, ⟨hCF3, fun k hk => by rw [hF3 32 0 (by decide)]; exact g1 k hk, g2⟩, hCF3.1.2.1, ?_⟩
  · unfold f6_refresh
    rw [xat_lit (v := 0) 0 rfl (by decide) (by decide), xat_lit (v := 1) 1 rfl (by decide) (by decide), xat_lit (v := 2) 2 rfl (by decide) (by decide), v2, v1 0 (by decide), v1 1 (by decide), v1 2 (by decide), e1]
    simp only [xbV]
    rw [show nI 0 = (0 : Int32) from rfl] at e2
    rw [e2]
    unfold f6_refresh_J92
    rw [xat_lit (v := 0) 0 rfl (by decide) (by decide), hF2 5 0 (by decide), hF2 22 0 (by decide), hF1 22 0 (by decide), hCF'.2.1, v1 0 (by decide), e3]
    rfl
  · have m1 : Fr PD S S1 := hF1.mono (fun t o h => by
      simp only [PD, PW, Bool.and_eq_false_iff, decide_eq_false_iff_not, List.mem_cons, List.mem_nil_iff, or_false] at h ⊢; omega)
    have m2 : Fr PD S1 S2 := hF2.mono (fun t o h => by
      simp only [PD, Bool.and_eq_false_iff, decide_eq_false_iff_not, List.mem_cons, List.mem_nil_iff, or_false] at h ⊢; omega)
    have m3 : Fr PD S2 S3 := hF3.mono (fun t o h => by
      simp only [PD, PR, Bool.and_eq_false_iff, decide_eq_false_iff_not, List.mem_cons, List.mem_nil_iff, or_false] at h ⊢; omega)
    exact (m1.tr m2).tr m3
