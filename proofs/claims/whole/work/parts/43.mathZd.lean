/-! recording a state -/
theorem copy_ok (S : xSt) (o1 o2 : Nat) : ∃ S', f6_copyState S o1 o2 = some (S', none) ∧ (∀ a, a 3 ≤ 240 → CV S o1 a → CV S' o2 a) ∧ ∀ t o, ¬ (o = o2 ∧ (t = 4 ∨ t = 22 ∨ t = 23 ∨ t = 24)) → S' t o = S t o := by
  have k3 : xcpok (0 : Int32) (0 : Int32) (3 : Int32) 3 3 := by decide
  have k240 : xcpok (0 : Int32) (0 : Int32) (240 : Int32) 240 240 := by decide
  have k281 : xcpok (0 : Int32) (0 : Int32) (281 : Int32) 281 281 := by decide
  have z0 : (0 : Int32).toNatClampNeg = 0 := rfl
  have z3 : (3 : Int32).toNatClampNeg = 3 := rfl
  have z240 : (240 : Int32).toNatClampNeg = 240 := rfl
  have z281 : (281 : Int32).toNatClampNeg = 281 := rfl
  have hne : ∀ (c : Prop) [Decidable c] (k : Option xR), c → xne c k = k := fun c _ k h => if_pos h
  refine ⟨xup (xua (xua (xua S 22 o2 (va_cpy (S 22 o1) (S 22 o2) 0 0 3)) 23 o2 (va_cpy (S 23 o1) (S 23 o2) 0 0 240)) 24 o2 (va_cpy (S 24 o1) (S 24 o2) 0 0 281)) 4 o2 3 (S 4 o1 3), ?_, fun a h3 h => ?_, fun t o h => ?_⟩
  · unfold f6_copyState
    rw [hne _ _ k3, xlet_eq, hne _ _ k240, xlet_eq, hne _ _ k281, xlet_eq, xlet_eq]
    simp (disch := decide) only [z0, z3, z240, z281, xua_o]
  · obtain ⟨v1, v2, v3, v4⟩ := h
    refine ⟨fun i hi => ?_, ?_, fun j hj => ?_, fun k hk => ?_⟩
    · rw [xup_o (by decide), xua_o (by decide), xua_o (by decide), xua_s, sb_cpy0 hi]; exact v1 i hi
    · rw [xup_s, if_pos rfl]; exact v2
    · rw [xup_o (by decide), xua_o (by decide), xua_s, sb_cpy0 (by omega)]; exact v3 j hj
    · rw [xup_o (by decide), xua_s, sb_cpy0 hk]; exact v4 k hk
  · by_cases c : o = o2
    · rw [xup_o (fun q => h ⟨c, by omega⟩), xua_o (fun q => h ⟨c, by omega⟩), xua_o (fun q => h ⟨c, by omega⟩), xua_o (fun q => h ⟨c, by omega⟩)]
    · simp only [xup, xua, if_neg (show ¬ (t = 4 ∧ o = o2) from fun q => c q.2), if_neg (show ¬ (t = 24 ∧ o = o2) from fun q => c q.2), if_neg (show ¬ (t = 23 ∧ o = o2) from fun q => c q.2), if_neg (show ¬ (t = 22 ∧ o = o2) from fun q => c q.2)]
def rT (T : wS) : wS := fun f i => if f = 1 then (if i = 0 then min (T 1 0 + 1) 6 else T 1 i) else if f = 2 + min (T 1 0) 5 then T 0 i else if T 1 0 = 6 ∧ 2 ≤ f ∧ f < 7 then T (f + 1) i else T f i
theorem rT_1 (T : wS) (i : Nat) : rT T 1 i = if i = 0 then min (T 1 0 + 1) 6 else T 1 i := rfl
theorem rT_e (T : wS) {f : Nat} (h : ¬ f = 1) : rT T f = if f = 2 + min (T 1 0) 5 then T 0 else if T 1 0 = 6 ∧ 2 ≤ f ∧ f < 7 then T (f + 1) else T f := by
  funext i
  show (if f = 1 then _ else if f = 2 + min (T 1 0) 5 then T 0 i else if T 1 0 = 6 ∧ 2 ≤ f ∧ f < 7 then T (f + 1) i else T f i) = _
  rw [if_neg h]
  by_cases c : f = 2 + min (T 1 0) 5
  · rw [if_pos c, if_pos c]
  · rw [if_neg c, if_neg c]
    by_cases c2 : T 1 0 = 6 ∧ 2 ≤ f ∧ f < 7
    · rw [if_pos c2, if_pos c2]
    · rw [if_neg c2, if_neg c2]
theorem rT_n (T : wS) {j : Nat} (hj : j = min (T 1 0) 5) : rT T (2 + j) = T 0 := by rw [rT_e T (by omega), if_pos (by omega)]
theorem rT_h {T : wS} (h : T 1 0 = 6) {j : Nat} (hj : j < 5) : rT T (2 + j) = T (2 + (j + 1)) := by rw [rT_e T (by omega), if_neg (by omega), if_pos (by omega)]; rfl
theorem rT_l {T : wS} (h : T 1 0 < 6) {j : Nat} (hj : j < T 1 0) : rT T (2 + j) = T (2 + j) := by rw [rT_e T (by omega), if_neg (by omega), if_neg (by omega)]
theorem rT_o {T : wS} {f : Nat} (h : f = 0 ∨ 8 ≤ f) : rT T f = T f := by rw [rT_e T (by omega), if_neg (by omega), if_neg (by omega)]
theorem rT_8 (T : wS) (i : Nat) : rT T (8 + i) = T (8 + i) := rT_o (by omega)
theorem rT_1s (T : wS) (i : Nat) : rT T 1 (2 + i) = T 1 (2 + i) := by rw [rT_1, if_neg (by omega)]
theorem rT_AI {T : wS} (hA : AI T) : AI (rT T) := by
  obtain ⟨a1, a2, a3, a4, a5, a6⟩ := hA
  refine ⟨by rw [rT_o (Or.inl rfl)]; exact a1, by rw [rT_1, if_pos rfl]; omega, fun j hj => ?_, fun i hi => ?_, a5, fun j hj => by rw [rT_o (Or.inr (by decide))]; exact a6 j hj⟩
  · rw [rT_1, if_pos rfl] at hj
    by_cases c : j = min (T 1 0) 5
    · rw [rT_n T c]; exact a1
    · by_cases h6 : T 1 0 = 6
      · rw [rT_h h6 (by omega)]; exact a3 (j + 1) (by omega)
      · rw [rT_l (by omega) (by omega)]; exact a3 j (by omega)
  · rw [rT_1s, rT_8]; exact a4 i hi
theorem record6_J {S : xSt} {h l : Nat} (hl : l < 6) (hh : h ≤ 6) (e : S 1 0 2 = nI h) : ∃ S', f1_record_J19 0 S (nI l) = some (S', none) ∧ (∀ a, a 3 ≤ 240 → CV S 0 a → CV S' (1 + l) a) ∧ S' 1 0 1 = nI l ∧ S' 1 0 2 = nI (min (h + 1) 6) ∧ ∀ t o, ¬ t = 1 → ¬ (o = 1 + l ∧ (t = 4 ∨ t = 22 ∨ t = 23 ∨ t = 24)) → S' t o = S t o := by
  obtain ⟨S3, e3, g1, g2⟩ := copy_ok (xup (xup S 1 0 1 (nI l)) 1 0 2 (nI (min (h + 1) 6))) 0 (1 + l)
  have hf : ∀ t, ¬ t = 1 → xup (xup S 1 0 1 (nI l)) 1 0 2 (nI (min (h + 1) 6)) t = S t := fun t h => by rw [xup_o h, xup_o h]
  have h1 : S3 1 0 = (xup (xup S 1 0 1 (nI l)) 1 0 2 (nI (min (h + 1) 6))) 1 0 := g2 1 0 (by omega)
  refine ⟨S3, ?_, fun a h3 hc => g1 a h3 (CV_fr hc (by rw [hf 4 (by decide)]) (by rw [hf 22 (by decide)]) (by rw [hf 23 (by decide)]) (by rw [hf 24 (by decide)])), ?_, ?_, fun t o h1 h => (g2 t o h).trans (by rw [hf t h1])⟩
  · have hm : (if (6 : Int32) < nI h + 1 then (6 : Int32) else nI h + 1) = nI (min (h + 1) 6) := by
      rw [nI_1]
      by_cases c : 6 < h + 1
      · have c2 : (6 : Int32) < nI (h + 1) := nI_lt (a := 6) c (by omega)
        rw [if_pos c2, show min (h + 1) 6 = 6 by omega]; rfl
      · have c2 : ¬ ((6 : Int32) < nI (h + 1)) := nI_nlt (a := 6) (b := h + 1) (by omega) (by decide)
        rw [if_neg c2, show min (h + 1) 6 = h + 1 by omega]
    have e2 : (xup S 1 0 1 (nI l)) 1 0 2 = nI h := by rw [xup_s, if_neg (by decide)]; exact e
    have e1 : (xup (xup S 1 0 1 (nI l)) 1 0 2 (nI (min (h + 1) 6))) 1 0 1 = nI l := by rw [xup_s, if_neg (by decide), xup_s, if_pos rfl]
    unfold f1_record_J19
    rw [xlet_eq, xlet_eq, e2, hm, e1, xat_ok hl (by decide), e3, xbV_eq]
  · rw [h1, xup_s, if_neg (by decide), xup_s, if_pos rfl]
  · rw [h1, xup_s, if_pos rfl]
theorem record6f {S : xSt} {T : wS} (hA : AI T) (h : CJ S T) : ∃ S', f1_record S 0 = some (S', none) ∧ CJ S' (rT T) ∧ Cfr S S' ∧ ∀ t o, ¬ t = 1 → ¬ (t = 4 ∨ t = 22 ∨ t = 23 ∨ t = 24) → S' t o = S t o := by
  obtain ⟨c1, c2, ⟨l, c3, c4, c5⟩, c6, c7, c8, c9, c10⟩ := h
  have hn := hA.1.2.2.2.1
  have h6 := hA.2.1
  obtain ⟨l', hl', hll, he⟩ : ∃ l', l' < 6 ∧ (l' = l + 1 ∨ (l = 5 ∧ l' = 0)) ∧ f1_record S 0 = f1_record_J19 0 S (nI l') := by
    unfold f1_record
    rw [c4]
    by_cases c : l < 5
    · have c2 : nI l < 5 := nI_lt (a := l) (b := 5) c (by decide)
      exact ⟨l + 1, by omega, Or.inl rfl, by rw [if_pos c2, nI_1]⟩
    · have c2 : ¬ nI l < 5 := nI_nlt (a := l) (b := 5) (by omega) (by omega)
      exact ⟨0, by omega, Or.inr ⟨by omega, rfl⟩, by rw [if_neg c2]; rfl⟩
  obtain ⟨S', e1, g1, g2, g3, g4⟩ := record6_J (S := S) hl' h6 c2
  have hg : ∀ o b, ¬ o = 1 + l' → CV S o b → CV S' o b := fun o b ho hc => CV_fr hc (g4 4 o (by decide) (fun q => ho q.1)) (g4 22 o (by decide) (fun q => ho q.1)) (g4 23 o (by decide) (fun q => ho q.1)) (g4 24 o (by decide) (fun q => ho q.1))
  have hb : ∀ o, BS S o → BS S' o := fun o hc => BS_fr hc (g4 10 o (by decide) (by omega)) (g4 11 o (by decide) (by omega)) (g4 12 o (by decide) (by omega))
  refine ⟨S', he.trans e1, ?_, fun t ht => by funext o; exact g4 t o (by omega) (by omega), fun t o h1 h2 => g4 t o h1 (fun q => h2 q.2)⟩
  unfold CJ
  simp only [rT_8, rT_1s, rT_o (T := T) (f := 0) (Or.inl rfl), rT_o (T := T) (f := 10) (Or.inr (by decide)), g4 31 0 (by decide) (by omega), g4 2 0 (by decide) (by omega), g4 15 0 (by decide) (by omega)]
  refine ⟨hg _ _ (by omega) c1, by rw [rT_1, if_pos rfl]; exact g3, ⟨l', hl', g2, fun j hj => ?_⟩, fun i hi => ⟨(c6 i hi).1, fun q => hg _ _ (by omega) ((c6 i hi).2 q)⟩, c7, c8, hb 0 c9, hb 1 c10⟩
  rw [rT_1, if_pos rfl] at hj ⊢
  by_cases c : j = min (T 1 0) 5
  · rw [rT_n T c, show (l' + 7 + j - min (T 1 0 + 1) 6) % 6 = l' by omega]
    exact g1 _ hn c1
  · by_cases h6 : T 1 0 = 6
    · rw [rT_h h6 (by omega), show (l' + 7 + j - min (T 1 0 + 1) 6) % 6 = (l + 7 + (j + 1) - T 1 0) % 6 by omega]
      exact hg _ _ (by omega) (c5 (j + 1) (by omega))
    · rw [rT_l (by omega) (by omega), show (l' + 7 + j - min (T 1 0 + 1) 6) % 6 = (l + 7 + j - T 1 0) % 6 by omega]
      exact hg _ _ (by omega) (c5 j (by omega))
theorem record6 {S : xSt} {T : wS} (hA : AI T) (h : CJ S T) : ∃ S', f1_record S 0 = some (S', none) ∧ CJ S' (rT T) ∧ Cfr S S' := by
  obtain ⟨S', e, g1, g2, g3⟩ := record6f hA h
  exact ⟨S', e, g1, g2⟩
/-! loops that copy, in the reference -/
def cpl (t b : Nat) (v : Nat → Int32) : Nat → Nat → xSt → xSt
  | 0, _, S => S
  | d + 1, i, S => cpl t b v d (i + 1) (xup S t 0 (b + i) (v i))
theorem cpl_o {t b : Nat} {v : Nat → Int32} {t' : Nat} (h : ¬ t' = t) : ∀ (d i : Nat) (S : xSt), cpl t b v d i S t' = S t'
  | 0, _, _ => rfl
  | d + 1, i, S => by rw [cpl, cpl_o h d, xup_o h]
theorem cpl_s {t b : Nat} {v : Nat → Int32} : ∀ (d i : Nat) (S : xSt) (j : Nat), cpl t b v d i S t 0 j = if b + i ≤ j ∧ j < b + i + d then v (j - b) else S t 0 j
  | 0, i, S, j => by rw [if_neg (by omega)]; rfl
  | d + 1, i, S, j => by
    rw [cpl, cpl_s d, xup_s]
    by_cases c : j = b + i
    · rw [if_neg (by omega), if_pos c, if_pos (by omega), show j - b = i by omega]
    · rw [if_neg c]
      by_cases c2 : b + i ≤ j ∧ j < b + i + (d + 1)
      · rw [if_pos c2, if_pos (by omega)]
      · rw [if_neg c2, if_neg (by omega)]
theorem m560 (h i : Nat) : nI h * 560 + nI i = nI (560 * h + i) := by rw [show (560 : Int32) = nI 560 from rfl, pk_mul, nI_add, Nat.mul_comm]
theorem rec_loop {h : Nat} (hh : h < 6) {v : Nat → Int32} : ∀ (d F i : Nat) (S : xSt), i + d = 560 → d < F → S 7 0 2 = nI h → (∀ j, j < 560 → S 33 0 j = v j) → f7_record_L47 F S (nI i) = f7_record_J81 (cpl 34 (560 * h) v d i S)
  | d, 0, _, _, _, h, _, _ => absurd h (Nat.not_lt_zero _)
  | 0, F + 1, i, S, e, _, h2, hv => by
    show b7_record_L47 (f7_record_L47 F) S (nI i) = _
    unfold b7_record_L47
    have h1 : (560 : Int32) ≤ nI i := nI_le (a := 560) (b := i) (by omega) (by omega)
    rw [if_pos h1]
    rfl
  | d + 1, F + 1, i, S, e, hF, h2, hv => by
    show b7_record_L47 (f7_record_L47 F) S (nI i) = _
    have h1 : ¬ ((560 : Int32) ≤ nI i) := nI_ge (a := i) (b := 560) (by omega) (by omega)
    unfold b7_record_L47
    rw [if_neg h1, xat_ok (by omega) (by decide), h2, m560, xat_ok (by omega) (by decide), xlet_eq, nI_1, hv i (by omega)]
    exact rec_loop hh d F (i + 1) _ (by omega) (by omega) (by rw [xup_o (by decide)]; exact h2) (fun j hj => by rw [xup_o (by decide)]; exact hv j hj)
theorem shift_loop {v : Nat → Int32} : ∀ (d F i : Nat) (S : xSt), i + d = 2800 → d < F → (∀ j, i ≤ j → j < 2800 → S 34 0 (j + 560) = v j) → f7_record_L11 F S (nI i) = f7_record_J40 (cpl 34 0 v d i S)
  | d, 0, _, _, _, h, _ => absurd h (Nat.not_lt_zero _)
  | 0, F + 1, i, S, e, _, hv => by
    show b7_record_L11 (f7_record_L11 F) S (nI i) = _
    unfold b7_record_L11
    have h1 : (2800 : Int32) ≤ nI i := nI_le (a := 2800) (b := i) (by omega) (by omega)
    rw [if_pos h1]
    rfl
  | d + 1, F + 1, i, S, e, hF, hv => by
    show b7_record_L11 (f7_record_L11 F) S (nI i) = _
    have h1 : ¬ ((2800 : Int32) ≤ nI i) := nI_ge (a := i) (b := 2800) (by omega) (by omega)
    have h2 : nI i + 560 = nI (i + 560) := nI_add i 560
    unfold b7_record_L11
    rw [if_neg h1, h2, xat_ok (by omega) (by decide), xat_ok (by omega) (by decide), xlet_eq, nI_1, hv i (by omega) (by omega)]
    rw [cpl, Nat.zero_add]
    exact shift_loop d F (i + 1) _ (by omega) (by omega) (fun j h1 h2 => by rw [xup_s, if_neg (by omega)]; exact hv j (by omega) h2)
theorem mend_loop : ∀ (d F i : Nat) (S : xSt), i + d = 560 → d < F → f7_mend_L4 F S (nI i) = some (cpl 33 0 (fun _ => 0) d i S, none)
  | d, 0, _, _, _, h => absurd h (Nat.not_lt_zero _)
  | 0, F + 1, i, S, e, _ => by
    show b7_mend_L4 (f7_mend_L4 F) S (nI i) = _
    unfold b7_mend_L4
    have h1 : (560 : Int32) ≤ nI i := nI_le (a := 560) (b := i) (by omega) (by omega)
    rw [if_pos h1]
    rfl
  | d + 1, F + 1, i, S, e, hF => by
    show b7_mend_L4 (f7_mend_L4 F) S (nI i) = _
    have h1 : ¬ ((560 : Int32) ≤ nI i) := nI_ge (a := i) (b := 560) (by omega) (by omega)
    unfold b7_mend_L4
    rw [if_neg h1, xat_ok (by omega) (by decide), xlet_eq, nI_1, cpl, Nat.zero_add]
    exact mend_loop d F (i + 1) _ (by omega) (by omega)
theorem record7 {S : xSt} {T : wS} (hA : AI T) (hM : MI S T) : ∃ S', f7_record S = some (S', none) ∧ MI S' (rT T) ∧ (∀ t, ¬ t = 34 → ¬ t = 7 → S' t = S t) ∧ ∀ i, ¬ i = 2 → S' 7 0 i = S 7 0 i := by
  obtain ⟨m1, m2, m3, m4, m5, m6⟩ := hM
  have h6 := hA.2.1
  have key : ∀ S' : xSt, (∀ t, ¬ t = 34 → ¬ t = 7 → S' t = S t) → (∀ i, ¬ i = 2 → S' 7 0 i = S 7 0 i) → S' 7 0 2 = nI (min (T 1 0 + 1) 6) → (∀ j, j < min (T 1 0 + 1) 6 → MV S' 34 (560 * j) (rT T (2 + j))) → MI S' (rT T) := by
    intro S' k1 k2 k3 k4
    unfold MI
    simp only [rT_8, rT_1s, rT_o (T := T) (f := 0) (Or.inl rfl), rT_o (T := T) (f := 10) (Or.inr (by decide)), k1 36 (by decide) (by decide), k1 37 (by decide) (by decide), k2 6 (by decide)]
    unfold MV at m1 m4 ⊢
    rw [k1 33 (by decide) (by decide), k1 35 (by decide) (by decide)]
    refine ⟨m1, by rw [rT_1, if_pos rfl]; exact k3, fun j hj => ?_, m4, m5, m6⟩
    rw [rT_1, if_pos rfl] at hj
    exact k4 j hj
  by_cases c : T 1 0 = 6
  · have e6 : S 7 0 2 = 6 := by rw [m2, c]; rfl
    obtain ⟨S1, hS1⟩ : ∃ S1, S1 = cpl 34 0 (fun j => S 34 0 (j + 560)) 2800 0 S := ⟨_, rfl⟩
    obtain ⟨S2, hS2⟩ : ∃ S2, S2 = xup S1 7 0 2 5 := ⟨_, rfl⟩
    obtain ⟨S3, hS3⟩ : ∃ S3, S3 = cpl 34 (560 * 5) (fun j => S 33 0 j) 560 0 S2 := ⟨_, rfl⟩
    have o1 : ∀ t, ¬ t = 34 → S1 t = S t := fun t h => by rw [hS1, cpl_o h]
    have o2 : ∀ t, ¬ t = 34 → ¬ t = 7 → S2 t = S t := fun t h h7 => by rw [hS2, xup_o h7, o1 t h]
    have o3 : ∀ t, ¬ t = 34 → S3 t = S2 t := fun t h => by rw [hS3, cpl_o h]
    have e2 : S2 7 0 2 = nI 5 := by rw [hS2, xup_s, if_pos rfl]; rfl
    have l1 := shift_loop (v := fun j => S 34 0 (j + 560)) 2800 xFU 0 S rfl (by show 2800 < 1000000; omega) (fun j _ _ => rfl)
    have l2 := rec_loop (h := 5) (by decide) (v := fun j => S 33 0 j) 560 xFU 0 S2 rfl (by show 560 < 1000000; omega) e2 (fun j hj => by rw [o2 33 (by decide) (by decide)])
    rw [← hS1] at l1
    rw [← hS3] at l2
    refine ⟨xup S3 7 0 2 (nI 6), ?_, key _ (fun t h1 h2 => by rw [xup_o h2, o3 t h1, o2 t h1 h2]) (fun i hi => by rw [xup_s, if_neg hi, o3 7 (by decide), hS2, xup_s, if_neg hi, o1 7 (by decide)]) (by rw [xup_s, if_pos rfl, c]; rfl) (fun j hj => ?_), fun t h1 h2 => by rw [xup_o h2, o3 t h1, o2 t h1 h2], fun i hi => by rw [xup_s, if_neg hi, o3 7 (by decide), hS2, xup_s, if_neg hi, o1 7 (by decide)]⟩
    · unfold f7_record
      rw [if_pos e6, ← nI_0, l1]
      unfold f7_record_J40 f7_record_J45
      rw [xlet_eq, ← hS2, ← nI_0, l2]
      unfold f7_record_J81
      rw [xlet_eq, o3 7 (by decide), e2]
      rfl
    · intro i hi hc
      rw [xup_o (by decide), hS3, cpl_s]
      by_cases c5 : j = 5
      · subst c5
        rw [rT_n T (by omega)] at hc ⊢
        rw [if_pos (by omega), show 560 * 5 + i - 560 * 5 = i by omega]
        exact MV0 m1 hi hc
      · rw [rT_h c (by omega)] at hc ⊢
        rw [if_neg (by omega), hS2, xup_o (by decide), hS1, cpl_s, if_pos (by omega)]
        show S 34 0 (560 * j + i - 0 + 560) = _
        rw [show 560 * j + i - 0 + 560 = 560 * (j + 1) + i by omega]
        exact m3 (j + 1) (by omega) i hi hc
  · have e6 : ¬ S 7 0 2 = 6 := fun q => by
      rw [m2] at q
      exact c (nI_inj (b := 6) (by omega) (by decide) q)
    obtain ⟨S3, hS3⟩ : ∃ S3, S3 = cpl 34 (560 * T 1 0) (fun j => S 33 0 j) 560 0 S := ⟨_, rfl⟩
    have o3 : ∀ t, ¬ t = 34 → S3 t = S t := fun t h => by rw [hS3, cpl_o h]
    have l2 := rec_loop (h := T 1 0) (by omega) (v := fun j => S 33 0 j) 560 xFU 0 S rfl (by show 560 < 1000000; omega) m2 (fun j hj => rfl)
    rw [← hS3] at l2
    refine ⟨xup S3 7 0 2 (nI (T 1 0 + 1)), ?_, key _ (fun t h1 h2 => by rw [xup_o h2, o3 t h1]) (fun i hi => by rw [xup_s, if_neg hi, o3 7 (by decide)]) (by rw [xup_s, if_pos rfl, show min (T 1 0 + 1) 6 = T 1 0 + 1 by omega]) (fun j hj => ?_), fun t h1 h2 => by rw [xup_o h2, o3 t h1], fun i hi => by rw [xup_s, if_neg hi, o3 7 (by decide)]⟩
    · unfold f7_record
      rw [if_neg e6]
      unfold f7_record_J45
      rw [← nI_0, l2]
      unfold f7_record_J81
      rw [xlet_eq, o3 7 (by decide), m2, nI_1]
    · intro i hi hc
      rw [xup_o (by decide), hS3, cpl_s]
      by_cases c5 : j = T 1 0
      · subst c5
        rw [rT_n T (by omega)] at hc ⊢
        rw [if_pos (by omega), show 560 * T 1 0 + i - 560 * T 1 0 = i by omega]
        exact MV0 m1 hi hc
      · rw [rT_l (by omega) (by omega)] at hc ⊢
        rw [if_neg (by omega)]
        exact m3 j (by omega) i hi hc
