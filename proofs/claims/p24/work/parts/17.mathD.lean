theorem wcl_eq (w : wS) (full po wi : Nat) : wcl w full po wi = (decide (w 0 0 = full) && (decide (po = 1) || (decide (po = 2) && decide (2 * wi ≤ w 4 0 - w 10 0) && decide (nI (sml (w 6) (w 4 0 - wi) wi) < nI (sml (w 6) (w 4 0 - 2 * wi) wi))))) := rfl
theorem f5_grow_ok {S : xSt} {o : Nat} {w : wS} {cl full x s : Nat} (hB : CB S o w) (hC : CC S o w cl) (hW : WB w) (hx : x < w 0 0) (hx2 : ¬ (x = 8 ∨ x = 9)) (hs : s < 8) (hf : S 5 o 10 = nI full) (hfl : full ≤ 512) (hef : w 0 0 ≤ full) (hc : chl w x s = 0) (hlng : w 9 0 < 2 ^ 30) (hsz : szf w x < 2 ^ 30) :
    ∃ S', f5_grow S o (nI x) (nI s) = some (S', none) ∧ CB S' o (wgr w full x s) ∧ CC S' o (wgr w full x s) cl ∧ S' 5 o 10 = nI full ∧ Fr (PW o) S S' := by
  unfold f5_grow wgr
  by_cases he : w 0 0 < full
  · obtain ⟨S1, e1, hB1, h5, h2x, hF⟩ := f0_addPhrase_ok (s := s) hB hW hx hx2 hs (by omega) hc
    have hlt : S 0 o 4 < S 5 o 10 := by rw [hB.1, hf]; exact nI_lt he (by omega)
    obtain ⟨c1, c2, c3, c4, c5, c6⟩ := hC
    have h12 : S1 12 o x = nI (szf w x) := by rw [CB_12 hB1 (by rw [wad_0]; omega), wad_szf w x s x hx]
    rw [if_pos hlt, e1, if_pos he]
    have hmax : (if S 5 o 9 < nI (szf w x) + 1 then nI (szf w x) + 1 else S 5 o 9) = nI (max (w 9 0) (szf w x + 1)) := by
      rw [c5, nI_1]
      by_cases hh : w 9 0 < szf w x + 1
      · rw [if_pos (nI_lt hh (by omega)), Nat.max_eq_right (by omega)]
      · rw [if_neg (nI_nlt (by omega) (by omega)), Nat.max_eq_left (by omega)]
    refine ⟨xup (xup S1 5 o 9 (nI (max (w 9 0) (szf w x + 1)))) 5 o 11 (nI (w 4 0)), ?_, ?_, ?_, ?_, ?_⟩
    · simp (disch := decide) only [xbV, xlet, xat_ok (i := x) (n := 512) (show x < 512 by omega) (by decide), h5, h12, hmax, xup_s, if_neg, c1]
    · refine ⟨?_, ?_, ?_, ?_⟩
      · simp (disch := decide) only [xup_o]; exact hB1.1
      · simp (disch := decide) only [xup_o]; exact hB1.2.1
      · simp (disch := decide) only [xup_o]; exact hB1.2.2.1
      · simp (disch := decide) only [xup_o]; exact hB1.2.2.2
    · refine ⟨?_, ?_, ?_, ?_, ?_, ?_⟩
      · simp (disch := decide) only [xup_s, if_neg, h5, wad_4]; exact c1
      · intro i hi
        rw [wad_4] at hi
        simp (disch := decide) only [xup_o, h2x 25 (by decide), h2x 26 (by decide), h2x 27 (by decide), h2x 28 (by decide), h2x 29 (by decide), wad_5, wad_6, wad_7, wad_8]
        exact c2 i hi
      · simp (disch := decide) only [xup_s, if_neg, h5, wad_4, wad_7]; exact c3
      · simp (disch := decide) only [xup_s, if_neg, h5]; exact c4
      · simp (disch := decide) only [xup_s, if_neg, if_pos, wad_9, if_true]
      · intro _
        simp only [xup_s, if_true, wad_10]
    · simp (disch := decide) only [xup_s, if_neg, h5]; exact hf
    · exact (hF.up (by simp [PW])).up (by simp [PW])
  · have hlt : ¬ S 0 o 4 < S 5 o 10 := by rw [hB.1, hf]; exact nI_nlt (by omega) (by omega)
    rw [if_neg hlt, if_neg he]
    exact ⟨S, rfl, hB, hC, hf, Fr.rf⟩
theorem f5_signsOf_loop {S : xSt} {o : Nat} {w : wS} {cl : Nat} (hC : CC S o w cl) (hc : w 4 0 ≤ 281) (a b : Nat) (hb : b ≤ w 4 0) : ∀ (d f i : Nat), i + d = b → d < f → a ≤ i →
    f5_signsOf_L5 o f S (nI b) (nI (sml (w 6) a (i - a))) (nI i) = some (S, some (.int (nI (sml (w 6) a (b - a)))))
  | d, 0, i, _, h, _ => absurd h (Nat.not_lt_zero d)
  | 0, f + 1, i, h1, h2, h3 => by
    show b5_signsOf_L5 o (f5_signsOf_L5 o f) S (nI b) _ (nI i) = _
    unfold b5_signsOf_L5
    rw [if_pos (nI_le (by omega) (by omega)), show i = b by omega]
  | d + 1, f + 1, i, h1, h2, h3 => by
    show b5_signsOf_L5 o (f5_signsOf_L5 o f) S (nI b) _ (nI i) = _
    unfold b5_signsOf_L5
    rw [if_neg (nI_ge (by omega) (by omega)), xat_ok (by omega) (by decide), (hC.2.1 i (by omega)).2.2.2.1, nI_add, nI_1]
    have e1 : sml (w 6) a (i - a) + w 6 i = sml (w 6) a (i + 1 - a) := by
      rw [show i + 1 - a = (i - a) + 1 by omega, sml, show a + (i - a) = i by omega]
    rw [e1]
    exact f5_signsOf_loop hC hc a b hb d f (i + 1) (by omega) (by omega) (by omega)
theorem f5_signsOf_ok {S : xSt} {o : Nat} {w : wS} {cl : Nat} (hC : CC S o w cl) (hc : w 4 0 ≤ 281) {a b : Nat} (hab : a ≤ b) (hb : b ≤ w 4 0) : f5_signsOf S o (nI a) (nI b) = some (S, some (.int (nI (sml (w 6) a (b - a))))) := by
  unfold f5_signsOf
  have h := f5_signsOf_loop hC hc a b hb (b - a) xFU a (by omega) (by show b - a < 1000000; omega) (Nat.le_refl _)
  rw [show a - a = 0 by omega] at h
  exact h
theorem f5_losesBy_ok {S : xSt} {o : Nat} {w : wS} {cl wi : Nat} (hC : CC S o w cl) (hc : w 4 0 ≤ 281) (hw : wi ≤ 32) (he : 10 < w 0 0) (hs : w 10 0 ≤ w 4 0) : f5_losesBy S o (nI wi) = some (S, some (.int (if 2 * wi ≤ w 4 0 - w 10 0 ∧ nI (sml (w 6) (w 4 0 - wi) wi) < nI (sml (w 6) (w 4 0 - 2 * wi) wi) then 1 else 0))) := by
  unfold f5_losesBy
  have h2 : (2 : Int32) * nI wi = nI (2 * wi) := pk_mul 2 wi
  rw [h2, hC.1, hC.2.2.2.2.2 he, pk_sub hs]
  by_cases c : 2 * wi ≤ w 4 0 - w 10 0
  · rw [if_pos (nI_le c (by omega)), pk_sub (show wi ≤ w 4 0 by omega), f5_signsOf_ok hC hc (by omega) (Nat.le_refl _)]
    simp only [xbI]
    rw [hC.1, pk_sub (show 2 * wi ≤ w 4 0 by omega), pk_sub (show wi ≤ w 4 0 by omega), f5_signsOf_ok hC hc (by omega) (by omega), show w 4 0 - (w 4 0 - wi) = wi by omega, show w 4 0 - wi - (w 4 0 - 2 * wi) = wi by omega]
    simp only [xbI]
    by_cases z : nI (sml (w 6) (w 4 0 - wi) wi) < nI (sml (w 6) (w 4 0 - 2 * wi) wi)
    · rw [if_neg (fun q => Int32.lt_irrefl (Int32.lt_of_lt_of_le z q)), if_pos ⟨c, z⟩]
      rfl
    · rw [if_pos (Int32.not_lt.mp z), if_neg (fun q => z q.2)]
      rfl
  · rw [if_neg (nI_ge (by omega) (by omega)), if_neg (fun q => c q.1)]
    rfl
theorem f5_mustClear_ok {S : xSt} {o : Nat} {w : wS} {cl full po wi : Nat} (hB : CB S o w) (hC : CC S o w cl) (hc : w 4 0 ≤ 281) (hw : wi ≤ 32) (hpo : po ≤ 2) (hf : S 5 o 10 = nI full) (hfl : 16 ≤ full ∧ full ≤ 512) (hef : w 0 0 ≤ full) (hs : w 10 0 ≤ w 4 0) : f5_mustClear S o (nI po) (nI wi) = some (S, some (.int (if wcl w full po wi = true then 1 else 0))) := by
  unfold f5_mustClear
  rw [wcl_eq]
  by_cases h0 : po = 0
  · subst h0
    rw [if_pos (show nI 0 = 0 from rfl), if_neg (by simp)]
    rfl
  · rw [if_neg (show ¬ nI po = 0 from fun q => h0 (nI_inj (b := 0) (by omega) (by decide) q)), hf, hB.1]
    by_cases he : w 0 0 = full
    · rw [if_pos (nI_le (by omega) (by omega))]
      by_cases h1 : po = 1
      · subst h1
        rw [if_pos (show nI 1 = 1 from rfl), if_pos (by simp [he])]
        rfl
      · have h2 : po = 2 := by omega
        subst h2
        rw [if_neg (show ¬ nI 2 = 1 by decide), f5_losesBy_ok hC hc hw (by omega) hs]
        simp only [xbI]
        by_cases z : 2 * wi ≤ w 4 0 - w 10 0 ∧ nI (sml (w 6) (w 4 0 - wi) wi) < nI (sml (w 6) (w 4 0 - 2 * wi) wi)
        · rw [if_pos z, if_neg (by decide), if_pos (by simp [he, z])]
          rfl
        · rw [if_neg z, if_pos rfl, if_neg (by
            intro q
            simp only [Bool.and_eq_true, Bool.or_eq_true, decide_eq_true_eq] at q
            rcases q.2 with q | q
            · omega
            · exact z ⟨q.1.2, q.2⟩)]
          rfl
    · rw [if_neg (nI_ge (by omega) (by omega)), if_neg (by simp [he])]
      rfl
/-! a cleared book -/
theorem drop_ok (S : xSt) (o : Nat) : ∃ S', f0_dropPhrases S o = some (S', none) ∧ (∀ w : wS, w 0 0 = 10 → (∀ k, k < 10 → S 10 o k = -6 ∧ S 11 o k = (if k < 8 then nI k else -6) ∧ S 12 o k = (if k < 8 then 1 else 0)) → CB S' o w) ∧ (∀ t, ¬ t = 0 → ¬ t = 13 → S' t = S t) ∧ Fr (PW o) S S' := by
  have hfill : ∀ T : xSt, ffill4 T 13 o 4096 0 80 0 = some (xua T 13 o (fun j => if j < 80 then 0 else T 13 o j), none) := by
    intro T
    unfold ffill4 xne
    rw [if_pos (by decide)]
    have e : (fun j => if (0 : Int32).toNatClampNeg ≤ j ∧ j < (80 : Int32).toNatClampNeg then (0 : Int32) else T 13 o j) = (fun j => if j < 80 then 0 else T 13 o j) := by
      funext j
      have h1 : (0 : Int32).toNatClampNeg = 0 := by decide
      have h2 : (80 : Int32).toNatClampNeg = 80 := by decide
      rw [h1, h2]
      simp
    rw [e]
  refine ⟨xua (xup S 0 o 4 10) 13 o (fun j => if j < 80 then 0 else (xup S 0 o 4 10) 13 o j), ?_, ?_, ?_, ?_⟩
  · unfold f0_dropPhrases
    simp only [xlet, hfill, xbV]
  · intro w hw hb
    refine ⟨?_, ?_, ?_, ?_⟩
    · simp (disch := decide) only [xua_o, xup_s, if_true, hw]; rfl
    · simp (disch := decide) only [xua_o, xup_o]; exact hb
    · intro k h1 h2
      omega
    · intro x s hx hs
      rw [xua_s, if_pos (by omega), show chl w x s = 0 by unfold chl; rw [hw]; rfl]
      rfl
  · intro t h0 h13
    rw [xua_o h13, xup_o h0]
  · exact (Fr.rf.up (by simp [PW])).ua (by simp [PW])
