/-! tenderest: the loops -/
def tst (f : Nat → Nat) (k : Nat) (s : Nat × Nat) : Nat × Nat := if s.1 = 0 ∨ f k < s.2 then (k + 1, f k) else s
def tsf (f : Nat → Nat) : Nat → Nat → Nat × Nat → Nat × Nat
  | 0, _, s => s
  | d + 1, k, s => tsf f d (k + 1) (tst f k s)
theorem tsf_stop (f : Nat → Nat) : ∀ (d k : Nat) (s : Nat × Nat), ¬ s.1 = 0 → s.2 = 0 → tsf f d k s = s
  | 0, _, _, _, _ => rfl
  | d + 1, k, s, h1, h2 => by
    have e : tst f k s = s := by
      unfold tst
      rw [if_neg (fun q => q.elim h1 (fun q => by omega))]
    rw [tsf, e]
    exact tsf_stop f d (k + 1) s h1 h2
def tok (s : Nat × Nat) : Prop := s.1 ≤ 281 ∧ s.2 ≤ 240
theorem tst_ok {f : Nat → Nat} {k : Nat} {s : Nat × Nat} (hk : k < 281) (hf : f k ≤ 240) (hs : tok s) : tok (tst f k s) := by
  unfold tst
  by_cases c : s.1 = 0 ∨ f k < s.2
  · rw [if_pos c]; exact ⟨by show k + 1 ≤ 281; omega, hf⟩
  · rw [if_neg c]; exact hs
theorem tst_pos (f : Nat → Nat) (k : Nat) (s : Nat × Nat) : ¬ (tst f k s).1 = 0 := by
  unfold tst
  by_cases c : s.1 = 0 ∨ f k < s.2
  · rw [if_pos c]; show ¬ k + 1 = 0; omega
  · rw [if_neg c]; exact fun q => c (Or.inl q)
theorem tsf_pos (f : Nat → Nat) : ∀ (d k : Nat) (s : Nat × Nat), ¬ (tsf f (d + 1) k s).1 = 0
  | 0, k, s => tst_pos f k s
  | d + 1, k, s => tsf_pos f d (k + 1) (tst f k s)
def t1 (s : Nat × Nat) : Int32 := if s.1 = 0 then 0 else nI (s.1 - 1)
def t2 (s : Nat × Nat) : Int32 := if s.1 = 0 then 1073741824 else nI s.2
def u1 (s : Nat × Nat) : Int32 := if s.1 = 0 then -6 else nI (s.1 - 1)
def u2 (s : Nat × Nat) : Int32 := if s.1 = 0 then 0 else nI s.2
theorem tf_le {T : wS} (hA : AI T) (k : Nat) : tf T k ≤ 240 := by
  have := (alk_le ((tr T k) 4) (mm (T 0)) (min ((tr T k) 3 0) (T 0 3)) 0).2
  have := hA.1.2.2.2.1
  unfold tf
  omega
theorem tend6 {T : wS} (hA : AI T) (i1 : Int32) : ∀ (d F k : Nat) (S : xSt) (s : Nat × Nat), k + d = (wa (T 0)) 4 0 → d < F → CI S T → tok s →
    ∃ S', f6_tenderest_L20 F S i1 (t1 s) (t2 s) (nI k) = f6_tenderest_J62 S' i1 (t1 (tsf (tf T) d k s)) (t2 (tsf (tf T) d k s)) ∧ CI S' T ∧ Cfr S S'
  | d, 0, _, _, _, _, h, _, _ => absurd h (Nat.not_lt_zero _)
  | 0, F + 1, k, S, s, e, _, hC, hs => by
    have hc := (AV_wfin hA.1).2.2.2.1
    have h56 : S 5 0 6 = nI ((wa (T 0)) 4 0) := hC.2.2.2.2.2.2.2.2.1.2.1
    refine ⟨S, ?_, hC, Cfr.rf⟩
    show b6_tenderest_L20 (f6_tenderest_L20 F) S i1 (t1 s) (t2 s) (nI k) = _
    unfold b6_tenderest_L20
    rw [h56, if_pos (nI_le (by omega) (by omega))]
    rfl
  | d + 1, F + 1, k, S, s, e, hF, hC, hs => by
    have hc := (AV_wfin hA.1).2.2.2.1
    have h56 : S 5 0 6 = nI ((wa (T 0)) 4 0) := hC.2.2.2.2.2.2.2.2.1.2.1
    have hle := tf_le hA k
    by_cases h0 : ¬ s.1 = 0 ∧ s.2 = 0
    · refine ⟨S, ?_, hC, Cfr.rf⟩
      rw [tsf_stop (tf T) (d + 1) k s h0.1 h0.2]
      show b6_tenderest_L20 (f6_tenderest_L20 F) S i1 (t1 s) (t2 s) (nI k) = _
      unfold b6_tenderest_L20
      have hz : t2 s ≤ 0 := by unfold t2; rw [if_neg h0.1, h0.2]; decide
      rw [h56, if_neg (nI_ge (by omega) (by omega)), if_pos hz]
    · obtain ⟨S1, e1, g1, g2⟩ := left_ok hA hC (k := k) (by omega)
      obtain ⟨S2, e2, k1, k2⟩ := tend6 hA i1 d F (k + 1) S1 (tst (tf T) k s) (by omega) (by omega) g1 (tst_ok (by omega) hle hs)
      refine ⟨S2, ?_, k1, g2.tr k2⟩
      rw [tsf, ← e2]
      show b6_tenderest_L20 (f6_tenderest_L20 F) S i1 (t1 s) (t2 s) (nI k) = _
      have hz : ¬ t2 s ≤ 0 := by
        unfold t2
        by_cases c : s.1 = 0
        · rw [if_pos c]; decide
        · rw [if_neg c]; exact nI_ge (a := 0) (b := s.2) (by omega) (by have := hs.2; omega)
      unfold b6_tenderest_L20 f6_tenderest_J56
      rw [h56, if_neg (nI_ge (by omega) (by omega)), if_neg hz, e1, xbI_eq, nI_1]
      unfold tst
      by_cases c : s.1 = 0 ∨ tf T k < s.2
      · have hn : ¬ (t2 s ≤ nI (tf T k)) := by
          unfold t2
          by_cases c0 : s.1 = 0
          · rw [if_pos c0]; exact nI_ge (a := tf T k) (b := 1073741824) (by omega) (by decide)
          · rw [if_neg c0]; exact nI_ge (c.resolve_left c0) (by have := hs.2; omega)
        rw [if_neg hn, if_pos c]
        rfl
      · have hn : t2 s ≤ nI (tf T k) := by
          unfold t2
          rw [if_neg (fun q => c (Or.inl q))]
          exact nI_le (by omega) (by omega)
        rw [if_pos hn, if_neg c]
theorem MC_FR {S S' : xSt} {w : wS} (h : MC S w) (hF : FR S S') : MC S' w := by
  unfold MC at h ⊢
  rw [hF.2 17 (by decide) (by decide) (by decide) (by decide) (by decide), hF.2 18 (by decide) (by decide) (by decide) (by decide) (by decide)]
  simp only [hF.1 42 0 (by decide), hF.1 43 0 (by decide), hF.1 44 0 (by decide), hF.1 45 0 (by decide), hF.1 46 0 (by decide)]
  exact h
theorem tread {S : xSt} {T : wS} (hA : AI T) (hM : MI S T) (hMC : MC S (wa (T 0))) {k : Nat} (hk : k < (wa (T 0)) 4 0) : ∃ S', f7_readCodes S (nI k) = some (S', none) ∧ f7_alike S' = some (S', some (.int (nI (tf T k)))) ∧ MI S' T ∧ MC S' (wa (T 0)) ∧ FR S S' := by
  have hc := (AV_wfin hA.1).2.2.2.1
  have hn := hA.1.2.2.2.1
  obtain ⟨o1, o2, o3⟩ := tr_RO hA k
  have hV : VK S (nI k) ((wa (T 0)) 4 0) (tc T k) := by
    refine ⟨hMC.1, fun j hj => ⟨?_, tc_lt hA hj⟩⟩
    unfold rv tc
    have h0 : (0 : Int32) ≤ nI k := nI_le (a := 0) (Nat.zero_le _) (by omega)
    rw [if_pos h0, (hMC.2.1 j hj).1]
    by_cases c : j = k
    · rw [if_pos (by rw [c]), if_pos c]
      exact (nI_xor (AV_code hA.1 hj) (b := 1) (by decide)).1
    · rw [if_neg (fun q => c (nI_inj (by omega) (by omega) q)), if_neg c]
  obtain ⟨S2, e2, g1, g2⟩ := f7_readCodes_ok (S := S) (i1 := nI k) (n := (wa (T 0)) 4 0) (wd := T 0 0) (c := tc T k) hA.1.1.1 hA.1.1.2 hc (MV0 hM.1 (by omega) (by omega)) hV
  have g1' : ME S2 (tr T k) := g1
  have hM2 := MI_FR hM g2
  refine ⟨S2, e2, ?_, hM2, MC_FR hMC g2, g2⟩
  exact f7_alike_ok (S := S2) (g := (tr T k) 3 0) (n := T 0 3) (f := (tr T k) 4) (h := mm (T 0)) g1'.2.1.1 (fun i hi => ⟨g1'.2.1.2.2 i hi, o2 i hi⟩) (by omega) (MV0 hM2.1 (by omega) (by omega)) (fun i hi => ⟨MV0 hM2.1 (by omega) (by omega), hA.1.2.2.2.2.1 i hi⟩) hn
theorem tend7 {T : wS} (hA : AI T) (i1 : Int32) : ∀ (d F k : Nat) (S : xSt) (s : Nat × Nat), k + d = (wa (T 0)) 4 0 → d < F → MI S T → MC S (wa (T 0)) → tok s →
    ∃ S', f7_tenderest_L24 F S i1 (u1 s) (u2 s) (nI k) = f7_tenderest_J65 S' i1 (u1 (tsf (tf T) d k s)) (u2 (tsf (tf T) d k s)) ∧ MI S' T ∧ Mfr S S'
  | d, 0, _, _, _, _, h, _, _, _ => absurd h (Nat.not_lt_zero _)
  | 0, F + 1, k, S, s, e, _, hM, hMC, hs => by
    have hc := (AV_wfin hA.1).2.2.2.1
    refine ⟨S, ?_, hM, Mfr.rf⟩
    show b7_tenderest_L24 (f7_tenderest_L24 F) S i1 (u1 s) (u2 s) (nI k) = _
    unfold b7_tenderest_L24
    rw [hMC.1, if_pos (nI_le (by omega) (by omega))]
    rfl
  | d + 1, F + 1, k, S, s, e, hF, hM, hMC, hs => by
    have hc := (AV_wfin hA.1).2.2.2.1
    have hle := tf_le hA k
    obtain ⟨S1, e1, e3, g1, g2, g3⟩ := tread hA hM hMC (k := k) (by omega)
    obtain ⟨S2, e2, k1, k2⟩ := tend7 hA i1 d F (k + 1) S1 (tst (tf T) k s) (by omega) (by omega) g1 g2 (tst_ok (by omega) hle hs)
    refine ⟨S2, ?_, k1, (FR_Mfr g3).tr k2⟩
    rw [tsf, ← e2]
    show b7_tenderest_L24 (f7_tenderest_L24 F) S i1 (u1 s) (u2 s) (nI k) = _
    have h51 : f7_tenderest_J51 (f7_tenderest_L24 F) S1 i1 (nI k) = f7_tenderest_L24 F S1 i1 (nI k) (nI (tf T k)) (nI (k + 1)) := by
      unfold f7_tenderest_J51 f7_tenderest_J59
      rw [e3, xbI_eq, nI_1]
    unfold b7_tenderest_L24
    rw [hMC.1, if_neg (nI_ge (by omega) (by omega)), e1, xbV_eq, e3, xbI_eq, h51]
    unfold f7_tenderest_J59 tst
    rw [nI_1]
    by_cases c0 : s.1 = 0
    · have hm : u1 s < 0 := by unfold u1; rw [if_pos c0]; decide
      rw [if_pos hm, if_pos (Or.inl c0)]
      rfl
    · have hm : ¬ u1 s < 0 := by unfold u1; rw [if_neg c0]; exact nI_nlt (a := s.1 - 1) (b := 0) (Nat.zero_le _) (by have := hs.1; omega)
      rw [if_neg hm]
      by_cases c : tf T k < s.2
      · have hn : ¬ (u2 s ≤ nI (tf T k)) := by unfold u2; rw [if_neg c0]; exact nI_ge c (by have := hs.2; omega)
        rw [if_neg hn, if_pos (Or.inr c)]
        rfl
      · have hn : u2 s ≤ nI (tf T k) := by unfold u2; rw [if_neg c0]; exact nI_le (by omega) (by omega)
        rw [if_pos hn, if_neg (fun q => q.elim c0 c)]
