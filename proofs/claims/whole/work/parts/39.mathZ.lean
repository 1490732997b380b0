/-! tenderest -/
def PT2 (t o' : Nat) : Bool := decide (o' = 1) && decide (t ∈ [32, 3, 19, 20, 21])
theorem CI_tr2 {S S' : xSt} {T : wS} (h : CI S T) (hF : Fr PT2 S S') : CI S' T := by
  have ho : ∀ t o, ¬ o = 1 → S' t o = S t o := fun t o h => hF t o (by simp only [PT2, Bool.and_eq_false_iff, decide_eq_false_iff_not]; exact Or.inl h)
  have ht : ∀ t, ¬ t ∈ [32, 3, 19, 20, 21] → S' t = S t := fun t h => by
    funext o
    exact hF t o (by simp only [PT2, Bool.and_eq_false_iff, decide_eq_false_iff_not]; exact Or.inr h)
  unfold CI CV DV CF CE CB CC CR BS at *
  simp only [ht 0 (by decide), ht 1 (by decide), ht 2 (by decide), ht 4 (by decide), ht 5 (by decide), ht 10 (by decide), ht 11 (by decide), ht 12 (by decide), ht 13 (by decide), ht 15 (by decide), ht 22 (by decide), ht 23 (by decide), ht 24 (by decide), ht 25 (by decide), ht 26 (by decide), ht 27 (by decide), ht 28 (by decide), ht 29 (by decide), ht 31 (by decide), ho 3 0 (by decide), ho 19 0 (by decide), ho 20 0 (by decide), ho 21 0 (by decide), ho 32 0 (by decide)]
  exact h
theorem PT2_Cfr {S S' : xSt} (hF : Fr PT2 S S') : Cfr S S' := fun t h => by
  funext o'
  refine hF t o' ?_
  simp only [PT2, Bool.and_eq_false_iff, decide_eq_false_iff_not, List.mem_cons, List.mem_nil_iff, or_false]
  exact Or.inr (by omega)
/-- the codes with code k turned by one -/
def tc (T : wS) (k j : Nat) : Nat := if j = k then (wa (T 0)) 5 j ^^^ 1 else (wa (T 0)) 5 j
def tr (T : wS) (k : Nat) : wS := rfin (tc T k) ((wa (T 0)) 4 0) (2 ^ T 0 0)
def tf (T : wS) (k : Nat) : Nat := alk ((tr T k) 4) (mm (T 0)) (min ((tr T k) 3 0) (T 0 3)) 0
theorem tc_lt {T : wS} (hA : AI T) {k j : Nat} (hj : j < (wa (T 0)) 4 0) : tc T k j < 512 := by
  unfold tc
  by_cases c : j = k
  · rw [if_pos c]; exact (nI_xor (AV_code hA.1 hj) (by decide)).2
  · rw [if_neg c]; exact AV_code hA.1 hj
theorem tr_RO {T : wS} (hA : AI T) (k : Nat) : RO (tr T k) := rfin_RO (AV_pow hA.1) (AV_wfin hA.1).2.2.2.1
theorem left_ok {S : xSt} {T : wS} (hA : AI T) (hC : CI S T) {k : Nat} (hk : k < (wa (T 0)) 4 0) : ∃ S', f6_signsLeft S (nI k) = some (S', some (.int (nI (tf T k)))) ∧ CI S' T ∧ Cfr S S' := by
  have hc := (AV_wfin hA.1).2.2.2.1
  have hn := hA.1.2.2.2.1
  have hCF : CF S 0 (wa (T 0)) := hC.2.2.2.2.2.2.2.2.1
  have h56 : S 5 0 6 = nI ((wa (T 0)) 4 0) := hCF.2.1
  obtain ⟨o1, o2, o3⟩ := tr_RO hA k
  -- the store with the trial codes
  let S1 := xua S 32 1 (va_cpy (S 25 0) (S 32 1) 0 0 ((wa (T 0)) 4 0))
  let S4 := xup S1 32 1 k (S1 32 1 k ^^^ 1)
  have hF4 : Fr PT2 S S4 := (Fr.rf.ua (by simp [PT2])).up (by simp [PT2])
  have h32 : ∀ j, j < (wa (T 0)) 4 0 → S1 32 1 j = nI ((wa (T 0)) 5 j) := by
    intro j hj
    show xua S 32 1 (va_cpy (S 25 0) (S 32 1) 0 0 ((wa (T 0)) 4 0)) 32 1 j = _
    unfold xua
    rw [if_pos ⟨rfl, rfl⟩, sb_cpy0 hj]
    exact (hCF.2.2.1 j hj).1
  have hSO : SO S4 1 (tc T k) ((wa (T 0)) 4 0) := by
    intro j hj
    refine ⟨?_, tc_lt hA hj⟩
    show xup S1 32 1 k (S1 32 1 k ^^^ 1) 32 1 j = _
    rw [xup_s]
    unfold tc
    by_cases c : j = k
    · rw [if_pos c, if_pos c, h32 k hk, c]
      exact (nI_xor (AV_code hA.1 hk) (b := 1) (by decide)).1
    · rw [if_neg c, if_neg c, h32 j hj]
  obtain ⟨S6, e6, g1, g2⟩ := f3_readAll_ok (S := S4) (o := 1) (o1 := 1) (n := (wa (T 0)) 4 0) (wd := T 0 0) (c := tc T k) hA.1.1.1 hA.1.1.2 hc hSO
  have hF6 : Fr PT2 S S6 := hF4.tr (g2.mono (fun t o h => by
    simp only [PT2, PR, Bool.and_eq_false_iff, decide_eq_false_iff_not, List.mem_cons, List.mem_nil_iff, or_false] at h ⊢; omega))
  have hC6 := CI_tr2 hC hF6
  have g1' : CE S6 1 (tr T k) := g1
  refine ⟨S6, ?_, hC6, PT2_Cfr hF6⟩
  have e5 : S4 5 0 6 = nI ((wa (T 0)) 4 0) := by rw [hF4 5 0 (by decide)]; exact h56
  have e22 : S4 22 0 0 = nI (T 0 0) := by rw [hF4 22 0 (by decide)]; exact hC.1.1 0 (by decide)
  have hfd := f3_first_ok (S := S6) (o := 1) (o1 := 0) (g := (tr T k) 3 0) (n := T 0 3) (f := (tr T k) 4) (h := mm (T 0)) g1'.1.1 (fun i hi => ⟨g1'.1.2.2.2.2.2.2 i hi, o2 i hi⟩) o1 (fun i hi => ⟨hC6.1.2.2.1 i hi, hA.1.2.2.2.2.1 i hi⟩) hn
  have hok : xcpok (0 : Int32) (0 : Int32) (S 5 0 6) 281 281 := by
    rw [h56]
    have z : ¬ ((0 : Int32) < 0) := by decide
    have z1 : (0 : Int32).toNatClampNeg = 0 := rfl
    have z2 : (nI ((wa (T 0)) 4 0)).toNatClampNeg = (wa (T 0)) 4 0 := nI_clamp (by omega)
    refine ⟨z, z, nI_nlt (a := (wa (T 0)) 4 0) (b := 0) (Nat.zero_le _) (by omega), ?_, ?_⟩
    · rw [z1, z2]; omega
    · rw [z1, z2]; omega
  have z2 : (S 5 0 6).toNatClampNeg = (wa (T 0)) 4 0 := by rw [h56]; exact nI_clamp (by omega)
  unfold f6_signsLeft
  have hne : ∀ k : Option xR, xne (xcpok (0 : Int32) (0 : Int32) (S 5 0 6) 281 281) k = k := fun k => if_pos hok
  rw [hne, xlet_eq, z2]
  show (xat (nI k) 281 fun j2 => xat (nI k) 281 fun j3 => xlet (xup S1 32 1 j3 ((S1 32 1 j2) ^^^ (1 : Int32))) fun S4 => xat (0 : Int32) 3 fun j5 => xbV (f3_readAll S4 1 1 (S4 5 0 6) (S4 22 0 j5)) fun S6 => xbI (f3_firstDifference S6 1 0 (S6 4 0 3)) fun S7 r8 => if r8 = (-6 : Int32) then some (S7, some (.int (S7 4 0 3))) else some (S7, some (.int r8))) = _
  rw [xat_ok (by omega) (by decide), xat_ok (by omega) (by decide), xlet_eq, xat_lit (v := 0) 0 rfl (by decide) (by decide)]
  show xbV (f3_readAll S4 1 1 (S4 5 0 6) (S4 22 0 0)) _ = _
  rw [e5, e22, e6, xbV_eq, hC6.1.2.1, hfd, xbI_eq]
  have hle := (alk_le ((tr T k) 4) (mm (T 0)) (min ((tr T k) 3 0) (T 0 3)) 0).2
  by_cases c : alk ((tr T k) 4) (mm (T 0)) (min ((tr T k) 3 0) (T 0 3)) 0 = (tr T k) 3 0 ∧ (tr T k) 3 0 = T 0 3
  · rw [if_pos c, if_pos rfl]
    have : tf T k = T 0 3 := by unfold tf; omega
    rw [this, hC6.1.2.1]
  · have hne6 : ¬ (nI (alk ((tr T k) 4) (mm (T 0)) (min ((tr T k) 3 0) (T 0 3)) 0) = (-6 : Int32)) := by
      intro q
      have : nI (alk ((tr T k) 4) (mm (T 0)) (min ((tr T k) 3 0) (T 0 3)) 0) < 0 := by rw [q]; decide
      exact absurd this (nI_nlt (b := 0) (Nat.zero_le _) (by omega))
    rw [if_neg c, if_neg hne6]
    rfl
