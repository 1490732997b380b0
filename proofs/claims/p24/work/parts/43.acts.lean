/-! the acts -/
theorem i_sp {S S' : xSt} {k x : Int32} {v : Int32} (h : f6_spoil S k x = some (S', some (.int v))) (k0 : Int32) (h2 : 0 ≤ k0 → v = k0 ^^^ x ∧ f6_ofCode S' k 1 = some (S', some (.int v))) (h3 : ¬ 0 ≤ k0 → v = -1) : fW_isSpoiled_J19 S k x k0 = some (S', some (.int 1)) := by
  unfold fW_isSpoiled_J19
  rw [h, xbI_eq]
  by_cases c : 0 ≤ k0
  · obtain ⟨a1, a2⟩ := h2 c
    rw [if_pos c, if_pos a1, a2, xbI_eq, if_pos rfl, x1]
  · rw [if_neg c, if_pos (h3 c), x1]
theorem AW_pT {a : Nat → Nat} (h : AW a) {k b : Nat} (hk : k < (wa a) 4 0) (hb : b < 512) : AW (pT a k b) := by
  obtain ⟨hA, h3, hz⟩ := h
  have hc := (AV_wfin hA).2.2.2.1
  refine ⟨pT_AV hA (by omega) hb, by rw [pT_o (by omega)]; exact h3, fun j h1 h2 => ?_⟩
  rw [pT_wa hA] at h1
  rw [pT_o (by omega)]
  exact hz j h1 h2
theorem isSpoiled_ok {S : xSt} {a : Nat → Nat} (hW : AW a) (hQ : QI S a) {k b : Nat} (hk : k ≤ (wa a) 4 0) (b1 : 1 ≤ b) (b2 : b ≤ 511) : ∃ S' a', fW_isSpoiled S (nI k) (nI b) = some (S', some (.int 1)) ∧ AW a' ∧ QI S' a' := by
  have hA := hW.1
  have hc := (AV_wfin hA).2.2.2.1
  unfold fW_isSpoiled
  rw [(q_count hA hQ).2.1, xbI_eq]
  by_cases c : k < (wa a) 4 0
  · obtain ⟨S', e1, g1⟩ := c_spoil hA hQ c b1 b2
    have hW' := AW_pT hW c (show b < 512 by omega)
    have hw := pT_wa (k := k) (b := b) hA
    obtain ⟨x1', x2'⟩ := AV_ca hA c
    refine ⟨S', pT a k b, ?_, hW', g1⟩
    rw [if_neg (nI_ge c (by omega)), (q_ofCode hA hQ c).2.1, xbI_eq]
    refine i_sp e1 (nI (ca a k)) (fun _ => ⟨?_, (q_ofCode hW'.1 g1 (by rw [hw]; exact c)).2.1⟩) (fun z => absurd (nI_pos' (by omega)) z)
    rw [(nI_xor x2' (show b < 512 by omega)).1]
    congr 1
    show (wa (pT a k b)) 5 k ^^^ pT a k b (250 + k) = ((wa a) 5 k ^^^ a (250 + k)) ^^^ b
    rw [hw, pT_s, Nat.xor_assoc]
  · have ek : k = (wa a) 4 0 := by omega
    refine ⟨S, a, ?_, hW, hQ⟩
    rw [if_pos (nI_le (by omega) (by omega)), ek]
    exact i_sp (c_spoil_no hA hQ (nI b)) (-1) (fun z => absurd z (by decide)) (fun _ => rfl)
theorem AW_of {a : Nat → Nat} (hA : AV a) (h3 : a 3 ≤ 34) (hz : ∀ k, k < 281 → a (250 + k) = 0) : AW a := ⟨hA, h3, fun k _ h => hz k h⟩
theorem q_clean {S : xSt} {a : Nat → Nat} (hA : AV a) (hQ : QI S a) (hz : ∀ k, k < 281 → a (250 + k) = 0) : f6_count S 6 = some (S, some (.int 0)) := by
  rw [(q_count hA hQ).2.2.2.2.2.2.1, cnz_z (f := fun j => a (250 + j)) hz]
  rfl
theorem act_add {S : xSt} {L : Nat} {xs : Nat → Int32} (hL : L ≤ 260) {a : Nat → Nat} (hW : AW a) (hQ : QI S a) {at_ kk : Nat} (h1 : 1 ≤ kk) (h2 : kk ≤ 8) (ha : at_ < 1000) : ∃ S' a', fW_isAct_J69 L xs S (nI at_) (nI (a 3)) (nI kk) (nI at_ + 1) = some (S', some (.int 1)) ∧ AW a' ∧ QI S' a' := by
  obtain ⟨hA, h3, hz⟩ := id hW
  obtain ⟨s, s1, es⟩ := cell_ok S xs hL (k := at_ + 1) (n := kk) (by omega) h1 (by omega)
  obtain ⟨m, m1, em⟩ := cell_ok S xs hL (k := at_ + 3) (n := 3) (by omega) (by decide) (by decide)
  unfold fW_isAct_J69 fW_isAct_J134
  have em' : fW_cell S L xs (nI at_ + 3) 3 = some (S, some (.int (nI m))) := by
    rw [show nI at_ + 3 = nI (at_ + 3) from nI_add at_ 3]
    exact em
  have e1 : (1 : Int32) + nI m = nI (m + 1) := by rw [Int32.add_comm, nI_1]
  rw [nI_1, es, xbI_eq, em', xbI_eq, e1, nI_add]
  by_cases c : 34 < a 3 + (m + 1)
  · have c' : (34 : Int32) < nI (a 3 + (m + 1)) := nI_lt (a := 34) c (by omega)
    exact ⟨S, a, by rw [if_pos c', x1], hW, hQ⟩
  · have c' : ¬ (34 : Int32) < nI (a 3 + (m + 1)) := nI_nlt (a := 34) (b := a 3 + (m + 1)) (by omega) (by decide)
    obtain ⟨S', e2, g2⟩ := c_add (s := s) (q := m + 1) hA hQ (by omega) (by omega) (by omega)
    have hA' := apn_AV (sp := fun _ => s) hA (show a 3 + (m + 1) ≤ 240 by omega) (fun j _ => by show s < 8; omega)
    have hz' : ∀ k, k < 281 → apn a (m + 1) (fun _ => s) (250 + k) = 0 := fun k _ => apn_z (by omega)
    have hp : nI (a 3 + (m + 1)) - 1 = nI (a 3 + m) := nI_pred (a 3 + m)
    have hs : mm (apn a (m + 1) (fun _ => s)) (a 3 + m) = s := by
      show apn a (m + 1) (fun _ => s) (10 + (a 3 + m)) = s
      rw [← Nat.add_assoc, apn_s (by omega) (by omega)]
    refine ⟨S', _, ?_, AW_of hA' (by rw [apn_3]; omega) hz', g2⟩
    rw [if_neg c', e2, xbI_eq, if_pos rfl, hp, q_sign hA' g2 (by rw [apn_3]; omega), xbI_eq, hs, if_pos rfl, q_clean hA' g2 hz', xbI_eq, if_pos rfl, x1]
theorem act_set {S : xSt} {L : Nat} {xs : Nat → Int32} {a : Nat → Nat} (hW : AW a) (hQ : QI S a) {i v : Nat} (hi : i < 3) (hv : (i = 1 ∧ v ≤ 2) ∨ (¬ i = 1 ∧ 4 ≤ v ∧ v ≤ 6)) : ∃ S' a', fW_isAct_J238 L xs S (nI i) (nI v) = some (S', some (.int 1)) ∧ AW a' ∧ QI S' a' := by
  obtain ⟨hA, h3, hz⟩ := id hW
  have hr : xSf 0 i ≤ nI v ∧ nI v ≤ xSf 1 i := by
    rcases (show i = 0 ∨ i = 1 ∨ i = 2 by omega) with rfl | rfl | rfl
    · exact ⟨nI_le (a := 4) (b := v) (by omega) (by omega), nI_le (a := v) (b := 9) (by omega) (by decide)⟩
    · exact ⟨nI_le (a := 0) (b := v) (by omega) (by omega), nI_le (a := v) (b := 2) (by omega) (by decide)⟩
    · exact ⟨nI_le (a := 4) (b := v) (by omega) (by omega), nI_le (a := v) (b := 32) (by omega) (by decide)⟩
  have hA' : AV (sT a i v) := by
    obtain ⟨a1, a2, a3, a4, a5, a6, a7⟩ := hA
    unfold AV
    rcases (show i = 0 ∨ i = 1 ∨ i = 2 by omega) with rfl | rfl | rfl
    · rw [sT_s (by decide), sT_o (i := 1) (by decide) (by decide), sT_o (i := 2) (by decide) (by decide), sT_o (i := 3) (by decide) (by decide)]
      exact ⟨⟨by omega, by omega⟩, a2, a3, a4, fun j hj => by rw [sT_o (by omega) (by omega)]; exact a5 j hj, fun k hk => by rw [sT_z (by omega)]; decide, fun k _ _ => sT_z (by omega)⟩
    · rw [sT_s (by decide), sT_o (i := 0) (by decide) (by decide), sT_o (i := 2) (by decide) (by decide), sT_o (i := 3) (by decide) (by decide)]
      exact ⟨a1, by omega, a3, a4, fun j hj => by rw [sT_o (by omega) (by omega)]; exact a5 j hj, fun k hk => by rw [sT_z (by omega)]; decide, fun k _ _ => sT_z (by omega)⟩
    · rw [sT_s (by decide), sT_o (i := 0) (by decide) (by decide), sT_o (i := 1) (by decide) (by decide), sT_o (i := 3) (by decide) (by decide)]
      exact ⟨a1, a2, ⟨by omega, by omega⟩, a4, fun j hj => by rw [sT_o (by omega) (by omega)]; exact a5 j hj, fun k hk => by rw [sT_z (by omega)]; decide, fun k _ _ => sT_z (by omega)⟩
  obtain ⟨S', e2, g2⟩ := c_set hA hQ hi hr hA'
  have hz' : ∀ k, k < 281 → sT a i v (250 + k) = 0 := fun k _ => sT_z (by omega)
  have hcnt : ∀ {S : xSt} {a : Nat → Nat}, AV a → QI S a → f6_count S ((9 : Int32) + nI i) = some (S, some (.int (nI (a i)))) := by
    intro S a hA hQ
    obtain ⟨c0, c1, c2, c3, c4, c5, c6, c9, c10, c11⟩ := q_count hA hQ
    rcases (show i = 0 ∨ i = 1 ∨ i = 2 by omega) with rfl | rfl | rfl
    · exact c9
    · exact c10
    · exact c11
  refine ⟨S', _, ?_, AW_of hA' (by rw [sT_o (by decide) (by omega)]; exact h3) hz', g2⟩
  unfold fW_isAct_J238
  rw [hcnt hA hQ, xbI_eq, e2, xbI_eq, if_pos rfl, hcnt hA' g2, xbI_eq, sT_s (by omega), if_pos rfl, q_clean hA' g2 hz', xbI_eq, if_pos rfl, x1]
theorem act_spoil {S : xSt} {L : Nat} {xs : Nat → Int32} {a : Nat → Nat} (hW : AW a) (hQ : QI S a) {k b : Nat} (hk : k ≤ (wa a) 4 0) (b1 : 1 ≤ b) (b2 : b ≤ 511) : ∃ S' a', fW_isAct_J344 L xs S (nI b) (nI k) = some (S', some (.int 1)) ∧ AW a' ∧ QI S' a' := by
  obtain ⟨S', a', e, g1, g2⟩ := isSpoiled_ok hW hQ hk b1 b2
  refine ⟨S', a', ?_, g1, g2⟩
  unfold fW_isAct_J344
  rw [e, xbI_eq, x1]
theorem isAct_ok {S : xSt} {L : Nat} (xs : Nat → Int32) (hL : L ≤ 260) {a : Nat → Nat} (hW : AW a) (hQ : QI S a) {at_ : Nat} (ha : at_ < 1000) : ∃ S' a', fW_isAct S L xs (nI at_) = some (S', some (.int 1)) ∧ AW a' ∧ QI S' a' := by
  obtain ⟨hA, h3, hz⟩ := id hW
  have hc := (AV_wfin hA).2.2.2.1
  have hK := AW_K hW
  obtain ⟨v, v1, ev⟩ := cell_ok S xs hL (k := at_) (n := 10) (by omega) (by decide) (by decide)
  have ev' : fW_cell S L xs (nI at_) 10 = some (S, some (.int (nI v))) := ev
  have i1 : nI at_ + 1 = nI (at_ + 1) := nI_1 at_
  have i2 : nI at_ + 2 = nI (at_ + 2) := nI_add at_ 2
  have i3 : nI at_ + 3 = nI (at_ + 3) := nI_add at_ 3
  obtain ⟨u, u1, eu⟩ := cell_ok S xs hL (k := at_ + 2) (n := 3) (by omega) (by decide) (by decide)
  have eu' : fW_cell S L xs (nI at_ + 2) 3 = some (S, some (.int (nI u))) := by rw [i2]; exact eu
  have hadd : ∃ S' a', (xbI (fW_cell S L xs (nI at_ + (2 : Int32)) (3 : Int32)) fun S15 r16 =>
      if r16 = 0 then fW_isAct_J69 L xs S15 (nI at_) (nI (a 3)) (8 : Int32) (nI at_ + (1 : Int32))
      else fW_isAct_J69 L xs S15 (nI at_) (nI (a 3)) (2 : Int32) (nI at_ + (1 : Int32))) = some (S', some (.int 1)) ∧ AW a' ∧ QI S' a' := by
    rw [eu', xbI_eq]
    by_cases c : nI u = 0
    · rw [if_pos c]; exact act_add hL hW hQ (kk := 8) (by decide) (by decide) ha
    · rw [if_neg c]; exact act_add hL hW hQ (kk := 2) (by decide) (by decide) ha
  unfold fW_isAct
  rw [(q_count hA hQ).1, xbI_eq, ev', xbI_eq, nI_toInt (by omega)]
  by_cases c4 : 4 < v
  · have c4' : (v : Int) < 0 ∨ 4 < (v : Int) := by omega
    rw [if_pos c4', (q_count hA hQ).2.1, xbI_eq, i1, nI_1]
    obtain ⟨k, k1, ek⟩ := cell_ok S xs hL (k := at_ + 1) (n := (wa a) 4 0 + 1) (by omega) (by omega) (by omega)
    rw [ek, xbI_eq, eu', xbI_eq, i3]
    by_cases cu : nI u = 0
    · obtain ⟨b, b1, eb⟩ := cell_ok S xs hL (k := at_ + 3) (n := 511) (by omega) (by decide) (by decide)
      have eb' : fW_cell S L xs (nI (at_ + 3)) 511 = some (S, some (.int (nI b))) := eb
      have e1 : (1 : Int32) + nI b = nI (b + 1) := by rw [Int32.add_comm, nI_1]
      rw [if_pos cu, eb', xbI_eq, e1]
      exact act_spoil hW hQ (by omega) (by omega) (by omega)
    · obtain ⟨b, b1, eb⟩ := cell_ok S xs hL (k := at_ + 3) (n := 5) (by omega) (by decide) (by decide)
      have eb' : fW_cell S L xs (nI (at_ + 3)) 5 = some (S, some (.int (nI b))) := eb
      have hp : 1 ≤ 2 ^ b ∧ 2 ^ b ≤ 16 := by
        rcases (show b = 0 ∨ b = 1 ∨ b = 2 ∨ b = 3 ∨ b = 4 by omega) with rfl | rfl | rfl | rfl | rfl <;> decide
      rw [if_neg cu, eb', xbI_eq, shl_pow (by omega)]
      exact act_spoil hW hQ (by omega) hp.1 (by omega)
  · have c4' : ¬ ((v : Int) < 0 ∨ 4 < (v : Int)) := by omega
    rw [if_neg c4', show ((v : Int) - 0).toNat = v by omega]
    rcases (show v = 0 ∨ v = 1 ∨ v = 2 ∨ v = 3 ∨ v = 4 by omega) with rfl | rfl | rfl | rfl | rfl
    · exact hadd
    · exact hadd
    · exact hadd
    · obtain ⟨q, q1, eq⟩ := cell_ok S xs hL (k := at_ + 1) (n := 12) (by omega) (by decide) (by decide)
      have eq' : fW_cell S L xs (nI at_ + 1) 12 = some (S, some (.int (nI q))) := by rw [i1]; exact eq
      have e1 : (1 : Int32) + nI q = nI (q + 1) := by rw [Int32.add_comm, nI_1]
      show ∃ S' a', (xbI (fW_cell S L xs (nI at_ + (1 : Int32)) (12 : Int32)) fun S21 r22 =>
        xbI (f6_cut S21 ((1 : Int32) + r22)) fun S23 r24 =>
        if ((1 : Int32) + r22) ≤ nI (a 3) then
          fW_isAct_J174 L xs S23 (nI (a 3) - ((1 : Int32) + r22)) r24
        else
          fW_isAct_J174 L xs S23 (-5 : Int32) r24) = some (S', some (.int 1)) ∧ AW a' ∧ QI S' a'
      rw [eq', xbI_eq, e1]
      by_cases cq : q + 1 ≤ a 3
      · obtain ⟨S', e2, g2⟩ := c_cut hA hQ (q := q + 1) (by omega) (by omega) cq
        have e3 : sT a 3 (a 3 - (q + 1)) 3 = a 3 - (q + 1) := sT_s (by decide)
        refine ⟨S', _, ?_, AW_of (sT_cut hA) (by rw [e3]; omega) (fun k _ => sT_z (by omega)), g2⟩
        rw [e2, xbI_eq, if_pos (nI_le cq (by omega)), pk_sub cq]
        unfold fW_isAct_J174
        rw [if_pos rfl, x1]
      · refine ⟨S, a, ?_, hW, hQ⟩
        rw [c_cut_no hQ (q := q + 1) (by omega) (by omega) cq, xbI_eq, if_neg (nI_ge (by omega) (by omega))]
        unfold fW_isAct_J174
        rw [if_pos rfl, x1]
    · obtain ⟨i, i1', ei⟩ := cell_ok S xs hL (k := at_ + 1) (n := 3) (by omega) (by decide) (by decide)
      have ei' : fW_cell S L xs (nI at_ + 1) 3 = some (S, some (.int (nI i))) := by rw [i1]; exact ei
      show ∃ S' a', (xbI (fW_cell S L xs (nI at_ + (1 : Int32)) (3 : Int32)) fun S25 r26 =>
        if r26 = 0 then
          xbI (fW_cell S25 L xs (nI at_ + (2 : Int32)) (3 : Int32)) fun S31 r32 =>
          fW_isAct_J238 L xs S31 r26 ((4 : Int32) + r32)
        else
          if r26 = (1 : Int32) then
            xbI (fW_cell S25 L xs (nI at_ + (2 : Int32)) (3 : Int32)) fun S29 r30 =>
            fW_isAct_J238 L xs S29 r26 r30
          else
            xbI (fW_cell S25 L xs (nI at_ + (2 : Int32)) (3 : Int32)) fun S27 r28 =>
            fW_isAct_J238 L xs S27 r26 ((4 : Int32) + r28)) = some (S', some (.int 1)) ∧ AW a' ∧ QI S' a'
      have e4 : (4 : Int32) + nI u = nI (4 + u) := nI_add 4 u
      rw [ei', xbI_eq]
      rcases (show i = 0 ∨ i = 1 ∨ i = 2 by omega) with rfl | rfl | rfl
      · rw [if_pos (by rfl), eu', xbI_eq, e4]
        exact act_set hW hQ (by decide) (Or.inr ⟨by decide, by omega, by omega⟩)
      · rw [if_neg (by decide), if_pos (by rfl), eu', xbI_eq]
        exact act_set hW hQ (by decide) (Or.inl ⟨rfl, by omega⟩)
      · rw [if_neg (by decide), if_neg (by decide), eu', xbI_eq, e4]
        exact act_set hW hQ (by decide) (Or.inr ⟨by decide, by omega, by omega⟩)
