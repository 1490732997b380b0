/-! what-ifs: a trial of writing -/
theorem CI_tr {S S' : xSt} {T : wS} (h : CI S T) (hF : Fr (PW 1) S S') (hb : BS S' 1) : CI S' T := by
  have ho : ∀ t o, ¬ o = 1 → S' t o = S t o := fun t o h => hF t o (by simp only [PW, Bool.and_eq_false_iff, decide_eq_false_iff_not]; exact Or.inl h)
  have ht : ∀ t, ¬ t ∈ [0, 5, 10, 11, 12, 13, 25, 26, 27, 28, 29] → S' t = S t := fun t h => by
    funext o
    exact hF t o (by simp only [PW, Bool.and_eq_false_iff, decide_eq_false_iff_not]; exact Or.inr h)
  obtain ⟨c1, c2, c3, c4, c5, c6, c7, c8, c9⟩ := h
  unfold CI CV DV CF CE CB CC CR at *
  have hB : BS S' 0 := by
    unfold BS at c7 ⊢
    rw [ho 10 0 (by decide), ho 11 0 (by decide), ho 12 0 (by decide)]; exact c7
  simp only [ht 1 (by decide), ht 2 (by decide), ht 3 (by decide), ht 4 (by decide), ht 15 (by decide), ht 19 (by decide), ht 20 (by decide), ht 21 (by decide), ht 22 (by decide), ht 23 (by decide), ht 24 (by decide), ht 31 (by decide), ht 32 (by decide), ho 0 0 (by decide), ho 5 0 (by decide), ho 10 0 (by decide), ho 11 0 (by decide), ho 12 0 (by decide), ho 13 0 (by decide), ho 25 0 (by decide), ho 26 0 (by decide), ho 27 0 (by decide), ho 28 0 (by decide), ho 29 0 (by decide)]
  exact ⟨c1, c2, c3, c4, c5, c6, hB, hb, c9⟩
theorem PW_Cfr {S S' : xSt} {o : Nat} (hF : Fr (PW o) S S') : Cfr S S' := fun t h => by
  funext o'
  refine hF t o' ?_
  simp only [PW, Bool.and_eq_false_iff, decide_eq_false_iff_not, List.mem_cons, List.mem_nil_iff, or_false]
  exact Or.inr (by omega)
theorem Cfr.tr {S S' S'' : xSt} (h : Cfr S S') (h2 : Cfr S' S'') : Cfr S S'' := fun t a => (h2 t a).trans (h t a)
/-- the bits that n signs m take at a width and a policy -/
def tb (m : Nat → Nat) (n wd po wi : Nat) : Nat := bts ((wfin m n (2 ^ wd) po wi) 7) ((wfin m n (2 ^ wd) po wi) 4 0)
theorem wid_le (e : Nat) : wid e ≤ 9 := by unfold wid; repeat' split
                                           all_goals omega
theorem bts_le (f : Nat → Nat) : ∀ c, bts f c ≤ 9 * c
  | 0 => Nat.le_refl _
  | c + 1 => by
    have := bts_le f c
    have := wid_le (f c)
    rw [bts]; omega
theorem tb_le {m : Nat → Nat} {n wd po wi : Nat} (h4 : 4 ≤ wd) (h9 : wd ≤ 9) (hn : n ≤ 240) (hm : ∀ j, j < n → m j < 8) : tb m n wd po wi ≤ 2529 := by
  have h1 := (wfin_in (po := po) (wi := wi) (pow_in h4 h9) hn hm).2.2.2.1
  have := bts_le ((wfin m n (2 ^ wd) po wi) 7) ((wfin m n (2 ^ wd) po wi) 4 0)
  unfold tb
  omega
theorem trial_ok {S : xSt} {T : wS} {m : Nat → Nat} {n wd po : Nat} (hA : AI T) (h22 : S 22 0 2 = nI (T 0 2)) (hb : BS S 1) (h4 : 4 ≤ wd) (h9 : wd ≤ 9) (hpo : po ≤ 2) (hn : n ≤ 240) (hm : ∀ j, j < n → S 23 0 j = nI (m j) ∧ m j < 8) :
    ∃ S', f6_trialBits S (nI n) (nI wd) (nI po) = some (S', some (.int (nI (tb m n wd po (T 0 2))))) ∧ BS S' 1 ∧ Fr (PW 1) S S' := by
  obtain ⟨S1, e1, hCF, hF⟩ := f5_writeOut_ok (S := S) (o := 1) (o1 := 0) (wd := wd) (po := po) (wi := T 0 2) (m := m) (n := n) h4 h9 hn hpo hA.1.2.2.1.2 hb hm
  refine ⟨S1, ?_, hCF.1.2.1, hF⟩
  unfold f6_trialBits
  rw [xat_lit (v := 2) 2 rfl (by decide) (by decide), h22, e1, xbV_eq, hCF.2.2.2.1]
  rfl
