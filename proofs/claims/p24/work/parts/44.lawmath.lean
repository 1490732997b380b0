/-! the start, and the law -/
def tT : Nat → Nat := fun i => if i = 0 then 6 else if i = 1 then 1 else if i = 2 then 8 else 0
theorem tT_0 {i : Nat} (h : 3 ≤ i) : tT i = 0 := by
  show (if i = 0 then 6 else if i = 1 then 1 else if i = 2 then 8 else 0) = 0
  rw [if_neg (by omega), if_neg (by omega), if_neg (by omega)]
theorem tT_AV : AV tT := by
  refine ⟨⟨by decide, by decide⟩, by decide, ⟨by decide, by decide⟩, by decide, fun j hj => ?_, fun k hk => by rw [tT_0 (by omega)]; decide, fun k _ _ => tT_0 (by omega)⟩
  rw [tT_0 (by omega)]; decide
theorem xS0_QJ : QJ xS0 tT := by
  refine ⟨⟨fun i hi => ?_, rfl, fun j hj => absurd hj (Nat.not_lt_zero j), fun k hk => ?_⟩, ⟨0, by decide, rfl⟩, ⟨0, by decide, rfl⟩, fun k hk => ?_⟩
  · show xFI0 i = _
    rcases (show i = 0 ∨ i = 1 ∨ i = 2 by omega) with rfl | rfl | rfl <;> rfl
  · rw [tT_0 (by omega)]; rfl
  · show xB1 k = -6 ∧ xB2 k = (if k < 8 then nI k else -6) ∧ xB3 k = (if k < 8 then 1 else 0)
    unfold xB1 xB2 xB3
    rw [if_pos hk, if_pos hk, if_pos hk]
    exact ⟨rfl, rfl, rfl⟩
theorem start_ok : ∃ S1, f6_refresh xS0 = some (S1, none) ∧ QI S1 tT := QJ_refresh tT_AV xS0_QJ
theorem set_in {a : Nat → Nat} (hA : AV a) {i v : Nat} (hi : i < 3) (hv : (i = 1 ∧ v ≤ 2) ∨ (¬ i = 1 ∧ 4 ≤ v ∧ v ≤ 6)) : (xSf 0 i ≤ nI v ∧ nI v ≤ xSf 1 i) ∧ AV (sT a i v) := by
  refine ⟨?_, ?_⟩
  · rcases (show i = 0 ∨ i = 1 ∨ i = 2 by omega) with rfl | rfl | rfl
    · exact ⟨nI_le (a := 4) (b := v) (by omega) (by omega), nI_le (a := v) (b := 9) (by omega) (by decide)⟩
    · exact ⟨nI_le (a := 0) (b := v) (by omega) (by omega), nI_le (a := v) (b := 2) (by omega) (by decide)⟩
    · exact ⟨nI_le (a := 4) (b := v) (by omega) (by omega), nI_le (a := v) (b := 32) (by omega) (by decide)⟩
  · obtain ⟨a1, a2, a3, a4, a5, a6, a7⟩ := hA
    unfold AV
    rcases (show i = 0 ∨ i = 1 ∨ i = 2 by omega) with rfl | rfl | rfl
    · rw [sT_s (by decide), sT_o (i := 1) (by decide) (by decide), sT_o (i := 2) (by decide) (by decide), sT_o (i := 3) (by decide) (by decide)]
      exact ⟨⟨by omega, by omega⟩, a2, a3, a4, fun j hj => by rw [sT_o (by omega) (by omega)]; exact a5 j hj, fun k hk => by rw [sT_z (by omega)]; decide, fun k _ _ => sT_z (by omega)⟩
    · rw [sT_s (by decide), sT_o (i := 0) (by decide) (by decide), sT_o (i := 2) (by decide) (by decide), sT_o (i := 3) (by decide) (by decide)]
      exact ⟨a1, by omega, a3, a4, fun j hj => by rw [sT_o (by omega) (by omega)]; exact a5 j hj, fun k hk => by rw [sT_z (by omega)]; decide, fun k _ _ => sT_z (by omega)⟩
    · rw [sT_s (by decide), sT_o (i := 0) (by decide) (by decide), sT_o (i := 1) (by decide) (by decide), sT_o (i := 3) (by decide) (by decide)]
      exact ⟨a1, a2, ⟨by omega, by omega⟩, a4, fun j hj => by rw [sT_o (by omega) (by omega)]; exact a5 j hj, fun k hk => by rw [sT_z (by omega)]; decide, fun k _ _ => sT_z (by omega)⟩
theorem law_end {S : xSt} {L : Nat} {xs : Nat → Int32} {a : Nat → Nat} (hW : AW a) (hQ : QI S a) : fW_law_J122 L xs S = some (S, some (.int 1)) := by
  unfold fW_law_J122
  rw [agree_ok hW hQ, xbI_eq]
  exact if_pos rfl
theorem law_acts {L : Nat} (xs : Nat → Int32) (hL : L ≤ 260) : ∀ (d F k : Nat) (S : xSt) (a : Nat → Nat), k + d = 22 → d < F → AW a → QI S a → ∃ out, fW_law_L87 L xs F S (nI k) = some out
  | d, 0, _, _, _, _, h, _, _ => absurd h (Nat.not_lt_zero _)
  | 0, F + 1, k, S, a, e, _, hW, hQ => by
    show ∃ out, bW_law_L87 L xs (fW_law_L87 L xs F) S (nI k) = some out
    unfold bW_law_L87
    have hk : (22 : Int32) ≤ nI k := nI_le (a := 22) (b := k) (by omega) (by omega)
    rw [if_pos hk]
    exact ⟨_, law_end hW hQ⟩
  | d + 1, F + 1, k, S, a, e, hF, hW, hQ => by
    show ∃ out, bW_law_L87 L xs (fW_law_L87 L xs F) S (nI k) = some out
    unfold bW_law_L87
    have hk : ¬ (22 : Int32) ≤ nI k := nI_ge (a := k) (b := 22) (by omega) (by decide)
    have e4 : (30 : Int32) + (4 : Int32) * nI k = nI (30 + 4 * k) := by rw [show (4 : Int32) = nI 4 from rfl, pk_mul, show (30 : Int32) = nI 30 from rfl, nI_add]
    obtain ⟨S', a', e1, g1, g2⟩ := isAct_ok (S := S) xs hL hW hQ (at_ := 30 + 4 * k) (by omega)
    rw [if_neg hk, agree_ok hW hQ, xbI_eq, if_neg (by decide), e4, e1, xbI_eq, if_neg (by decide), nI_1]
    exact law_acts xs hL d F (k + 1) S' a' (by omega) (by omega) g1 g2
theorem law_adds {L : Nat} (xs : Nat → Int32) (hL : L ≤ 260) {kinds : Nat} (h1 : 1 ≤ kinds) (h8 : kinds ≤ 8) : ∀ (d F k : Nat) (S : xSt) (a : Nat → Nat), k + d = 24 → d < F → AW a → QI S a → a 3 = k → ∃ out, fW_law_L52 L xs F S (nI kinds) (nI k) = some out
  | d, 0, _, _, _, _, h, _, _, _ => absurd h (Nat.not_lt_zero _)
  | 0, F + 1, k, S, a, e, _, hW, hQ, _ => by
    show ∃ out, bW_law_L52 L xs (fW_law_L52 L xs F) S (nI kinds) (nI k) = some out
    unfold bW_law_L52 fW_law_J85
    have hk : (24 : Int32) ≤ nI k := nI_le (a := 24) (b := k) (by omega) (by omega)
    rw [if_pos hk]
    exact law_acts xs hL 22 xFL 0 S a rfl (by decide) hW hQ
  | d + 1, F + 1, k, S, a, e, hF, hW, hQ, h3 => by
    show ∃ out, bW_law_L52 L xs (fW_law_L52 L xs F) S (nI kinds) (nI k) = some out
    unfold bW_law_L52
    have hk : ¬ (24 : Int32) ≤ nI k := nI_ge (a := k) (b := 24) (by omega) (by decide)
    have e3 : (3 : Int32) + nI k = nI (3 + k) := nI_add 3 k
    have hA := hW.1
    obtain ⟨s, s1, es⟩ := cell_ok S xs hL (k := 3 + k) (n := kinds) (by omega) h1 (by omega)
    obtain ⟨S', e2, g2⟩ := c_add (s := s) (q := 1) hA hQ (by omega) (by decide) (by omega)
    have e2' : f6_add S (nI s) 1 = some (S', some (.int (nI (a 3 + 1)))) := e2
    have hA' := apn_AV (sp := fun _ => s) hA (show a 3 + 1 ≤ 240 by omega) (fun j _ => by show s < 8; omega)
    rw [if_neg hk, e3, es, xbI_eq, e2', xbI_eq, h3, nI_1, if_pos rfl]
    exact law_adds xs hL h1 h8 d F (k + 1) S' _ (by omega) (by omega) (AW_of hA' (by rw [apn_3]; omega) (fun k _ => apn_z (by omega))) g2 (by rw [apn_3, h3])
theorem law_all {L : Nat} (xs : Nat → Int32) (hL : L ≤ 260) {S : xSt} (hQ : QI S tT) : ∃ out, fW_law_J8 L xs S = some out := by
  have hA := tT_AV
  unfold fW_law_J8
  obtain ⟨v, v1, ev⟩ := cell_ok S xs hL (k := 0) (n := 3) (by decide) (by decide) (by decide)
  have ev' : fW_cell S L xs 0 3 = some (S, some (.int (nI v))) := ev
  have e4 : (4 : Int32) + nI v = nI (4 + v) := nI_add 4 v
  obtain ⟨i1, hA1⟩ := set_in (i := 0) (v := 4 + v) hA (by decide) (Or.inr ⟨by decide, by omega, by omega⟩)
  obtain ⟨S1, f1, g1⟩ := c_set hA hQ (by decide) i1 hA1
  have f1' : f6_set S 0 (nI (4 + v)) = some (S1, some (.int (nI (tT 0)))) := f1
  obtain ⟨u, u1, eu⟩ := cell_ok S1 xs hL (k := 1) (n := 3) (by decide) (by decide) (by decide)
  have eu' : fW_cell S1 L xs 1 3 = some (S1, some (.int (nI u))) := eu
  obtain ⟨i2, hA2⟩ := set_in (i := 1) (v := u) hA1 (by decide) (Or.inl ⟨rfl, by omega⟩)
  obtain ⟨S2, f2, g2⟩ := c_set hA1 g1 (by decide) i2 hA2
  have f2' : f6_set S1 1 (nI u) = some (S2, some (.int (nI (sT tT 0 (4 + v) 1)))) := f2
  obtain ⟨i3, hA3⟩ := set_in (i := 2) (v := 4) hA2 (by decide) (Or.inr ⟨by decide, by decide, by decide⟩)
  obtain ⟨S3, f3, g3⟩ := c_set hA2 g2 (by decide) i3 hA3
  have f3' : f6_set S2 2 4 = some (S3, some (.int (nI (sT (sT tT 0 (4 + v)) 1 u 2)))) := f3
  obtain ⟨k, k1, ek⟩ := cell_ok S3 xs hL (k := 2) (n := 3) (by decide) (by decide) (by decide)
  have ek' : fW_cell S3 L xs 2 3 = some (S3, some (.int (nI k))) := ek
  have e2 : (2 : Int32) + nI k = nI (2 + k) := nI_add 2 k
  rw [ev', xbI_eq, e4, f1', xbI_eq, eu', xbI_eq, f2', xbI_eq, f3', xbI_eq, ek', xbI_eq, e2]
  have h0 : sT (sT (sT tT 0 (4 + v)) 1 u) 2 4 3 = 0 := by
    rw [sT_o (by decide) (by decide), sT_o (by decide) (by decide), sT_o (by decide) (by decide)]
    rfl
  exact law_adds xs hL (by omega) (by omega) 24 xFL 0 S3 _ rfl (by decide) (AW_of hA3 (by rw [h0]; decide) (fun k _ => sT_z (by omega))) g3 h0
