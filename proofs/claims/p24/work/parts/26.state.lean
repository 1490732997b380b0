/-! the state of the object, in numbers: a 0 to a 2 the settings, a 3 the length, a (10 + j) signs, a (250 + k) what is turned -/
def mm (a : Nat → Nat) : Nat → Nat := fun j => a (10 + j)
def AV (a : Nat → Nat) : Prop := (4 ≤ a 0 ∧ a 0 ≤ 9) ∧ a 1 ≤ 2 ∧ (4 ≤ a 2 ∧ a 2 ≤ 32) ∧ a 3 ≤ 240 ∧ (∀ j, j < a 3 → a (10 + j) < 8) ∧ (∀ k, k < 281 → a (250 + k) < 512) ∧ ∀ k, 281 ≤ k → k < 310 → a (250 + k) = 0
def wa (a : Nat → Nat) : wS := wfin (mm a) (a 3) (2 ^ a 0) (a 1) (a 2)
def ca (a : Nat → Nat) (k : Nat) : Nat := (wa a) 5 k ^^^ a (250 + k)
def ra (a : Nat → Nat) : wS := rfin (ca a) ((wa a) 4 0) (2 ^ a 0)
def CV (S : xSt) (o : Nat) (a : Nat → Nat) : Prop := (∀ i, i < 3 → S 22 o i = nI (a i)) ∧ S 4 o 3 = nI (a 3) ∧ (∀ j, j < a 3 → S 23 o j = nI (a (10 + j))) ∧ ∀ k, k < 281 → S 24 o k = nI (a (250 + k))
def DV (S : xSt) (a : Nat → Nat) : Prop := CF S 0 (wa a) ∧ (∀ k, k < (wa a) 4 0 → S 32 0 k = nI (ca a k)) ∧ CE S 0 (ra a)
theorem xbI_eq (S : xSt) (v : Int32) (k : xSt → Int32 → Option xR) : xbI (some (S, some (.int v))) k = k S v := rfl
theorem xbV_eq (S : xSt) (k : xSt → Option xR) : xbV (some (S, none)) k = k S := rfl
theorem xat_lit {v : Int32} (j : Nat) {n : Nat} {k : Nat → Option xR} (e : v = nI j) (h : j < n) (hn : n < 2 ^ 31) : xat v n k = k j := xat_at e h hn
/-! what the spec's vector gives -/
theorem AV_pow {a : Nat → Nat} (h : AV a) : 16 ≤ 2 ^ a 0 ∧ 2 ^ a 0 ≤ 512 := pow_in h.1.1 h.1.2
theorem AV_wfin {a : Nat → Nat} (h : AV a) : WB (wa a) ∧ (wa a) 0 0 ≤ 2 ^ a 0 ∧ 1 ≤ (wa a) 4 0 ∧ (wa a) 4 0 ≤ 281 ∧ (wa a) 9 0 ≤ 240 := wfin_in (AV_pow h) h.2.2.2.1 (fun j hj => h.2.2.2.2.1 j hj)
theorem AV_code {a : Nat → Nat} (h : AV a) {k : Nat} (hk : k < (wa a) 4 0) : (wa a) 5 k < 512 := wfin_WC (AV_pow h) h.2.2.2.1 (fun j hj => h.2.2.2.2.1 j hj) k hk
theorem AV_ca {a : Nat → Nat} (h : AV a) {k : Nat} (hk : k < (wa a) 4 0) : nI ((wa a) 5 k) ^^^ nI (a (250 + k)) = nI (ca a k) ∧ ca a k < 512 := nI_xor (AV_code h hk) (h.2.2.2.2.2.1 k (by have := (AV_wfin h).2.2.2.1; omega))
/-! refresh -/
def PD (t o' : Nat) : Bool := decide (o' = 0) && decide (t ∈ [0, 5, 10, 11, 12, 13, 25, 26, 27, 28, 29, 32, 3, 19, 20, 21])
theorem refresh_loop {a : Nat → Nat} (hA : AV a) : ∀ (d f k : Nat) (S : xSt), k + d = (wa a) 4 0 → d < f → S 5 0 6 = nI ((wa a) 4 0) → (∀ i, i < (wa a) 4 0 → S 25 0 i = nI ((wa a) 5 i)) → (∀ i, i < 281 → S 24 0 i = nI (a (250 + i))) → (∀ i, i < k → S 32 0 i = nI (ca a i)) →
    ∃ S', f6_refresh_L50 f S (nI k) = f6_refresh_J92 S' ∧ (∀ i, i < (wa a) 4 0 → S' 32 0 i = nI (ca a i)) ∧ Fr (fun t o => decide (t = 32) && decide (o = 0)) S S'
  | d, 0, _, _, _, h, _, _, _, _ => absurd h (Nat.not_lt_zero _)
  | 0, f + 1, k, S, e, _, h6, h25, h24, h32 => by
    have hk : k = (wa a) 4 0 := by omega
    subst hk
    refine ⟨S, ?_, h32, Fr.rf⟩
    show b6_refresh_L50 (f6_refresh_L50 f) S (nI ((wa a) 4 0)) = _
    unfold b6_refresh_L50
    have := (AV_wfin hA).2.2.2.1
    rw [h6, if_pos (nI_le (Nat.le_refl _) (by omega))]
  | d + 1, f + 1, k, S, e, hf, h6, h25, h24, h32 => by
    have hc := (AV_wfin hA).2.2.2.1
    obtain ⟨S', e1, g1, g2⟩ := refresh_loop hA d f (k + 1) (xup S 32 0 k (nI (ca a k))) (by omega) (by omega) (by rw [xup_o (by decide)]; exact h6) (fun i hi => by rw [xup_o (by decide)]; exact h25 i hi) (fun i hi => by rw [xup_o (by decide)]; exact h24 i hi) (fun i hi => by
      rw [xup_s]
      by_cases c : i = k
      · rw [if_pos c, c]
      · rw [if_neg c]; exact h32 i (by omega))
    refine ⟨S', ?_, g1, (Fr.rf.up (by simp)).tr g2⟩
    show b6_refresh_L50 (f6_refresh_L50 f) S (nI k) = _
    unfold b6_refresh_L50
    rw [h6, if_neg (nI_ge (by omega) (by omega)), xat_ok (by omega) (by decide), xat_ok (by omega) (by decide), xat_ok (by omega) (by decide), h25 k (by omega), h24 k (by omega), (AV_ca hA (by omega)).1, xlet_eq, nI_1]
    exact e1
theorem refresh_ok {S : xSt} {a : Nat → Nat} (hA : AV a) (hV : CV S 0 a) (hb : BS S 0) : ∃ S', f6_refresh S = some (S', none) ∧ DV S' a ∧ BS S' 0 ∧ Fr PD S S' := by
  obtain ⟨v1, v2, v3, v4⟩ := hV
  obtain ⟨⟨a1, a2⟩, a3, ⟨a4, a5⟩, a6, a7, a8, a9⟩ := id hA
  obtain ⟨S1, e1, hCF, hF1⟩ := f5_writeOut_ok (o := 0) (o1 := 0) (wd := a 0) (po := a 1) (wi := a 2) (m := mm a) (n := a 3) a1 a2 a6 a3 a5 hb (fun j hj => ⟨v3 j hj, a7 j hj⟩)
  have hCF' : CF S1 0 (wa a) := hCF
  obtain ⟨S2, e2, g1, hF2⟩ := refresh_loop hA ((wa a) 4 0) xFU 0 S1 (by omega) (by have := (AV_wfin hA).2.2.2.1; show _ < 1000000; omega) hCF'.2.1 (fun i hi => (hCF'.2.2.1 i hi).1) (fun i hi => by rw [hF1 24 0 (by decide)]; exact v4 i hi) (fun i hi => absurd hi (Nat.not_lt_zero i))
  obtain ⟨S3, e3, g2, hF3⟩ := f3_readAll_ok (S := S2) (o := 0) (o1 := 0) (n := (wa a) 4 0) (wd := a 0) (c := ca a) a1 a2 (AV_wfin hA).2.2.2.1 (fun j hj => ⟨g1 j hj, (AV_ca hA hj).2⟩)
  have hs : ∀ t, t ∈ [0, 5, 10, 11, 12, 13, 25, 26, 27, 28, 29] → S3 t 0 = S1 t 0 := by
    intro t ht
    simp only [List.mem_cons, List.mem_nil_iff, or_false] at ht
    rcases ht with rfl | rfl | rfl | rfl | rfl | rfl | rfl | rfl | rfl | rfl | rfl <;> rw [hF3 _ 0 (by decide), hF2 _ 0 (by decide)]
  have hCF3 : CF S3 0 (wa a) := by
    unfold CF CB CC at hCF' ⊢
    simp only [hs 0 (by decide), hs 5 (by decide), hs 10 (by decide), hs 11 (by decide), hs 12 (by decide), hs 13 (by decide), hs 25 (by decide), hs 26 (by decide), hs 27 (by decide), hs 28 (by decide), hs 29 (by decide)]
    exact hCF'
  refine ⟨S3, ?_, ⟨hCF3, fun k hk => by rw [hF3 32 0 (by decide)]; exact g1 k hk, g2⟩, hCF3.1.2.1, ?_⟩
  · unfold f6_refresh
    rw [xat_lit (v := 0) 0 rfl (by decide) (by decide), xat_lit (v := 1) 1 rfl (by decide) (by decide), xat_lit (v := 2) 2 rfl (by decide) (by decide), v2, v1 0 (by decide), v1 1 (by decide), v1 2 (by decide), e1]
    simp only [xbV]
    rw [show nI 0 = (0 : Int32) from rfl] at e2
    rw [e2]
    unfold f6_refresh_J92
    rw [xat_lit (v := 0) 0 rfl (by decide) (by decide), hF2 5 0 (by decide), hF2 22 0 (by decide), hF1 22 0 (by decide), hCF'.2.1, v1 0 (by decide), e3]
    rfl
  · have m1 : Fr PD S S1 := hF1.mono (fun t o h => by
      simp only [PD, PW, Bool.and_eq_false_iff, decide_eq_false_iff_not, List.mem_cons, List.mem_nil_iff, or_false] at h ⊢; omega)
    have m2 : Fr PD S1 S2 := hF2.mono (fun t o h => by
      simp only [PD, Bool.and_eq_false_iff, decide_eq_false_iff_not, List.mem_cons, List.mem_nil_iff, or_false] at h ⊢; omega)
    have m3 : Fr PD S2 S3 := hF3.mono (fun t o h => by
      simp only [PD, PR, Bool.and_eq_false_iff, decide_eq_false_iff_not, List.mem_cons, List.mem_nil_iff, or_false] at h ⊢; omega)
    exact (m1.tr m2).tr m3
/-! what holds between two calls -/
def QJ (S : xSt) (a : Nat → Nat) : Prop := CV S 0 a ∧ (∃ l, l < 6 ∧ S 1 0 1 = nI l) ∧ (∃ h, h ≤ 6 ∧ S 1 0 2 = nI h) ∧ BS S 0
def QI (S : xSt) (a : Nat → Nat) : Prop := QJ S a ∧ DV S a
theorem QJ_refresh {S : xSt} {a : Nat → Nat} (hA : AV a) (h : QJ S a) : ∃ S', f6_refresh S = some (S', none) ∧ QI S' a := by
  obtain ⟨h1, h2, h3, h4⟩ := h
  obtain ⟨S', e, g1, g2, g3⟩ := refresh_ok hA h1 h4
  refine ⟨S', e, ⟨?_, ?_, ?_, g2⟩, g1⟩
  · unfold CV at h1 ⊢
    rw [g3 22 0 (by decide), g3 4 0 (by decide), g3 23 0 (by decide), g3 24 0 (by decide)]
    exact h1
  · rw [g3 1 0 (by decide)]; exact h2
  · rw [g3 1 0 (by decide)]; exact h3
theorem arg_sw (x : Int32) (b : Nat) (hb : b < 2 ^ 31) : (x.toInt < 0 ∨ (b : Int) < x.toInt) ∨ ∃ j, j ≤ b ∧ x = nI j := by
  by_cases c : x.toInt < 0 ∨ (b : Int) < x.toInt
  · exact Or.inl c
  · have h0 : ¬ x < 0 := fun q => by
      rw [Int32.lt_iff_toInt_lt] at q
      exact c (Or.inl q)
    have h1 : x ≤ nI b := by
      rw [Int32.le_iff_toInt_le, nI_toInt hb]
      exact Int.not_lt.mp (fun q => c (Or.inr q))
    obtain ⟨j, hj, e⟩ := nI_of2 (M := nI b) (n := b) (nI_toInt hb) h0 h1
    exact Or.inr ⟨j, hj, e⟩
