/-! what-ifs: a trial of writing -/
theorem CI_tr {S S' : xSt} {T : wS} (h : CI S T) (hF : Fr (PW 1) S S') (hb : BS S' 1) : CI S' T := by
  have ho : ∀ t o, ¬ o = 1 → S' t o = S t o := fun t o h => hF t o (by simp only [PW, Bool.and_eq_false_iff, decide_eq_false_iff_not]; exact Or.inl h)
  have ht : ∀ t, ¬ t ∈ [0, 5, 10, 11, 12, 13, 25, 26, 27, 28, 29] → S' t = S t := fun t h => by
    funext o
    exact hF t o (by simp only [PW, Bool.and_eq_false_iff, decide_eq_false_iff_not]; exact Or.inr h)
  obtain ⟨c1, c2, c3, c4, c5, c6, c7, c8, c9⟩ := h
  unfold CI CV DV CF CE CB CC CR at *
  have hB : BS S' 0 := by
    unfold BS at c7 ⊢
    rw [ho 10 0 (by decide), ho 11 0 (by decide), ho 12 0 (by decide)]; exact c7
  simp only [ht 1 (by decide), ht 2 (by decide), ht 3 (by decide), ht 4 (by decide), ht 15 (by decide), ht 19 (by decide), ht 20 (by decide), ht 21 (by decide), ht 22 (by decide), ht 23 (by decide), ht 24 (by decide), ht 31 (by decide), ht 32 (by decide), ho 0 0 (by decide), ho 5 0 (by decide), ho 10 0 (by decide), ho 11 0 (by decide), ho 12 0 (by decide), ho 13 0 (by decide), ho 25 0 (by decide), ho 26 0 (by decide), ho 27 0 (by decide), ho 28 0 (by decide), ho 29 0 (by decide)]
  exact ⟨c1, c2, c3, c4, c5, c6, hB, hb, c9⟩
theorem PW_Cfr {S S' : xSt} {o : Nat} (hF : Fr (PW o) S S') : Cfr S S' := fun t h => by
  funext o'
  refine hF t o' ?_
  simp only [PW, Bool.and_eq_false_iff, decide_eq_false_iff_not, List.mem_cons, List.mem_nil_iff, or_false]
  exact Or.inr (by omega)
theorem Cfr.tr {S S' S'' : xSt} (h : Cfr S S') (h2 : Cfr S' S'') : Cfr S S'' := fun t a => (h2 t a).trans (h t a)
/-- the bits that n signs m take at a width and a policy -/
def tb (m : Nat → Nat) (n wd po wi : Nat) : Nat := bts ((wfin m n (2 ^ wd) po wi) 7) ((wfin m n (2 ^ wd) po wi) 4 0)
theorem wid_le (e : Nat) : wid e ≤ 9 := by unfold wid; repeat' split
                                           all_goals omega
theorem bts_le (f : Nat → Nat) : ∀ c, bts f c ≤ 9 * c
  | 0 => Nat.le_refl _
  | c + 1 => by
    have := bts_le f c
    have := wid_le (f c)
    rw [bts]; omega
theorem tb_le {m : Nat → Nat} {n wd po wi : Nat} (h4 : 4 ≤ wd) (h9 : wd ≤ 9) (hn : n ≤ 240) (hm : ∀ j, j < n → m j < 8) : tb m n wd po wi ≤ 2529 := by
  have h1 := (wfin_in (po := po) (wi := wi) (pow_in h4 h9) hn hm).2.2.2.1
  have := bts_le ((wfin m n (2 ^ wd) po wi) 7) ((wfin m n (2 ^ wd) po wi) 4 0)
  unfold tb
  omega
theorem trial_ok {S : xSt} {T : wS} {m : Nat → Nat} {n wd po : Nat} (hA : AI T) (h22 : S 22 0 2 = nI (T 0 2)) (hb : BS S 1) (h4 : 4 ≤ wd) (h9 : wd ≤ 9) (hpo : po ≤ 2) (hn : n ≤ 240) (hm : ∀ j, j < n → S 23 0 j = nI (m j) ∧ m j < 8) :
    ∃ S', f6_trialBits S (nI n) (nI wd) (nI po) = some (S', some (.int (nI (tb m n wd po (T 0 2))))) ∧ BS S' 1 ∧ Fr (PW 1) S S' := by
  obtain ⟨S1, e1, hCF, hF⟩ := f5_writeOut_ok (S := S) (o := 1) (o1 := 0) (wd := wd) (po := po) (wi := T 0 2) (m := m) (n := n) h4 h9 hn hpo hA.1.2.2.1.2 hb hm
  refine ⟨S1, ?_, hCF.1.2.1, hF⟩
  unfold f6_trialBits
  rw [xat_lit (v := 2) 2 rfl (by decide) (by decide), h22, e1, xbV_eq, hCF.2.2.2.1]
  rfl
theorem set6_ok (S : xSt) {i : Nat} (hi : i < 3) (a : Int32) : f6_isSetting S (nI i) a = some (S, some (.int (if xSf 0 i ≤ a ∧ a ≤ xSf 1 i then 1 else 0))) := by
  have h0 : ¬ (nI i < 0) := nI_nlt (a := i) (b := 0) (Nat.zero_le _) (by omega)
  have h2 : ¬ ((2 : Int32) < nI i) := nI_nlt (a := 2) (b := i) (by omega) (by decide)
  unfold f6_isSetting
  rw [if_neg h0, if_neg h2, xat_ok hi (by decide)]
  by_cases c1 : a < xSf 0 i
  · rw [if_pos c1, if_neg (fun q => absurd c1 (Int32.not_lt.mpr q.1))]; exact if_pos (by decide)
  · rw [if_neg c1, xat_ok hi (by decide)]
    by_cases c2 : xSf 1 i < a
    · rw [if_pos c2, if_neg (fun q => absurd c2 (Int32.not_lt.mpr q.2))]; exact if_pos (by decide)
    · have hp : xSf 0 i ≤ a ∧ a ≤ xSf 1 i := ⟨Int32.not_lt.mp c1, Int32.not_lt.mp c2⟩
      rw [if_neg c2, if_pos hp]; exact if_pos (by decide)
theorem arg_in {x : Int32} {a b : Nat} (hb : b < 2 ^ 31) (h1 : nI a ≤ x) (h2 : x ≤ nI b) (ha : a ≤ b) : ∃ j, a ≤ j ∧ j ≤ b ∧ x = nI j := by
  have h0 : ¬ x < 0 := Int32.not_lt.mpr (Int32.le_trans (nI_le (a := 0) (Nat.zero_le _) (by omega)) h1)
  obtain ⟨j, hj, rfl⟩ := nI_of2 (M := nI b) (n := b) (nI_toInt hb) h0 h2
  refine ⟨j, ?_, hj, rfl⟩
  by_cases c : a ≤ j
  · exact c
  · exact absurd h1 (nI_ge (by omega) (by omega))
/-- the reference tries to write -/
theorem write_now {S : xSt} {T : wS} {wd po : Nat} (hA : AI T) (hM : MI S T) (h4 : 4 ≤ wd) (h9 : wd ≤ 9) (hpo : po ≤ 2) : ∃ S', f7_write S (nI wd) (nI po) = some (S', none) ∧ f7_bits S' = some (S', some (.int (nI (tb (mm (T 0)) (T 0 3) wd po (T 0 2))))) ∧ MI S' T ∧ FM S S' := by
  obtain ⟨h1, h2⟩ := MV_SM hA.1 hM.1
  obtain ⟨S', e, g1, g2, g3⟩ := f7_write_ok (S := S) (m := mm (T 0)) (n := T 0 3) (wi := T 0 2) h4 h9 hA.1.2.2.2.1 hpo hA.1.2.2.1.2 h1
  have hc := (wfin_in (m := mm (T 0)) (po := po) (wi := T 0 2) (pow_in h4 h9) hA.1.2.2.2.1 (fun j hj => hA.1.2.2.2.2.1 j hj)).2.2.2.1
  exact ⟨S', e, f7_bits_ok g2 (by omega), MI_FM hM g3, g3⟩
theorem bitsWith_ok {T : wS} (hA : AI T) (x y : Int32) : OKc (fun S => f6_bitsWith S x y) (fun S => f7_bitsWith S x y) T := by
  have hf : ∀ S, f6_bitsWith S x y = (if (if (4 : Int32) ≤ x ∧ x ≤ 9 then (1 : Int32) else 0) = 0 then some (S, some (Value.int (-2 : Int32))) else if (if (0 : Int32) ≤ y ∧ y ≤ 2 then (1 : Int32) else 0) = 0 then some (S, some (Value.int (-2 : Int32))) else xbI (f6_trialBits S (S 4 0 3) x y) fun S5 r6 => some (S5, some (Value.int r6))) := by
    intro S
    have e0 := set6_ok S (i := 0) (by decide) x
    have e1 := set6_ok S (i := 1) (by decide) y
    rw [show nI 0 = (0 : Int32) from rfl] at e0
    rw [show nI 1 = (1 : Int32) from rfl] at e1
    unfold f6_bitsWith
    rw [e0, xbI_eq, e1, xbI_eq]
    rfl
  have hg : ∀ S, f7_bitsWith S x y = (if (if (4 : Int32) ≤ x ∧ x ≤ 9 then (1 : Int32) else 0) = 0 then some (S, some (Value.int (-2 : Int32))) else if (if (0 : Int32) ≤ y ∧ y ≤ 2 then (1 : Int32) else 0) = 0 then some (S, some (Value.int (-2 : Int32))) else xbV (f7_write S x y) fun S5 => xbI (f7_bits S5) fun S6 r7 => some (S6, some (Value.int r7))) := by
    intro S
    unfold f7_bitsWith
    rw [f7_in_ok, xbI_eq, f7_in_ok, xbI_eq]
  by_cases c1 : (4 : Int32) ≤ x ∧ x ≤ 9
  · by_cases c2 : (0 : Int32) ≤ y ∧ y ≤ 2
    · obtain ⟨wd, hw1, hw2, rfl⟩ := arg_in (x := x) (a := 4) (b := 9) (by decide) c1.1 c1.2 (by decide)
      obtain ⟨po, hp1, hp2, rfl⟩ := arg_in (x := y) (a := 0) (b := 2) (by decide) c2.1 c2.2 (by decide)
      refine ⟨nI (tb (mm (T 0)) (T 0 3) wd po (T 0 2)), T, hA, fun S hC => ?_, fun S hM => ?_⟩
      · obtain ⟨S1, e1, g1, g2⟩ := trial_ok (S := S) (m := mm (T 0)) (n := T 0 3) hA (hC.1.1 2 (by decide)) hC.2.2.2.2.2.2.2.1 hw1 hw2 hp2 hA.1.2.2.2.1 (fun j hj => ⟨hC.1.2.2.1 j hj, hA.1.2.2.2.2.1 j hj⟩)
        refine ⟨S1, ?_, CI_tr hC g2 g1, PW_Cfr g2⟩
        show f6_bitsWith S (nI wd) (nI po) = _
        rw [hf, if_pos c1, if_neg (by decide), if_pos c2, if_neg (by decide), hC.1.2.1, e1, xbI_eq]
      · obtain ⟨S1, e1, e2, g1, g2⟩ := write_now hA hM hw1 hw2 hp2
        refine ⟨S1, ?_, g1, FM_Mfr g2⟩
        show f7_bitsWith S (nI wd) (nI po) = _
        rw [hg, if_pos c1, if_neg (by decide), if_pos c2, if_neg (by decide), e1, xbV_eq, e2, xbI_eq]
    · refine ⟨-2, T, hA, fun S hC => ⟨S, ?_, hC, Cfr.rf⟩, fun S hM => ⟨S, ?_, hM, Mfr.rf⟩⟩
      · show f6_bitsWith S x y = _
        rw [hf, if_pos c1, if_neg (by decide), if_neg c2, if_pos rfl]
      · show f7_bitsWith S x y = _
        rw [hg, if_pos c1, if_neg (by decide), if_neg c2, if_pos rfl]
  · refine ⟨-2, T, hA, fun S hC => ⟨S, ?_, hC, Cfr.rf⟩, fun S hM => ⟨S, ?_, hM, Mfr.rf⟩⟩
    · show f6_bitsWith S x y = _
      rw [hf, if_neg c1, if_pos rfl]
    · show f7_bitsWith S x y = _
      rw [hg, if_neg c1, if_pos rfl]
