/-! the start, and the law's loop -/
def tT : wS := fun f i => if f = 0 then (if i = 0 then 6 else if i = 1 then 1 else if i = 2 then 8 else 0) else 0
theorem tT_0 {i : Nat} (h : 3 ≤ i) : tT 0 i = 0 := by
  show (if 0 = 0 then (if i = 0 then 6 else if i = 1 then 1 else if i = 2 then 8 else 0) else 0) = 0
  rw [if_pos rfl, if_neg (by omega), if_neg (by omega), if_neg (by omega)]
theorem tT_o {f : Nat} (i : Nat) (h : ¬ f = 0) : tT f i = 0 := if_neg h
theorem tT_AV : AV (tT 0) := by
  refine ⟨⟨by decide, by decide⟩, by decide, ⟨by decide, by decide⟩, by decide, fun j hj => ?_, fun k hk => by rw [tT_0 (by omega)]; decide, fun k _ _ => tT_0 (by omega)⟩
  rw [tT_0 (by omega)]; decide
theorem tT_AI : AI tT :=
  ⟨tT_AV, by decide, fun j hj => absurd hj (Nat.not_lt_zero j), fun i hi => ⟨by rw [tT_o _ (by decide)]; decide, fun q => by rw [tT_o _ (by decide)] at q; exact absurd q (by decide)⟩, by decide, fun j hj => absurd hj (Nat.not_lt_zero j)⟩
theorem xS0_CJ : CJ xS0 tT := by
  have hb : ∀ o, BS xS0 o := by
    intro o k hk
    show xB1 k = -6 ∧ xB2 k = (if k < 8 then nI k else -6) ∧ xB3 k = (if k < 8 then 1 else 0)
    unfold xB1 xB2 xB3
    rw [if_pos hk, if_pos hk, if_pos hk]
    exact ⟨rfl, rfl, rfl⟩
  refine ⟨⟨fun i hi => ?_, rfl, fun j hj => absurd hj (Nat.not_lt_zero j), fun k hk => ?_⟩, rfl, ⟨0, by decide, rfl, fun j hj => absurd hj (Nat.not_lt_zero j)⟩, fun i hi => ⟨?_, fun q => ?_⟩, rfl, fun j hj => absurd hj (Nat.not_lt_zero j), hb 0, hb 1⟩
  · show xFI0 i = _
    have h3 : i = 0 ∨ i = 1 ∨ i = 2 := by omega
    rcases h3 with rfl | rfl | rfl <;> rfl
  · rw [tT_0 (by omega)]; rfl
  · rw [tT_o _ (by decide)]; rfl
  · rw [tT_o _ (by decide)] at q; exact absurd q (by decide)
theorem xSM_MI : MI xSM tT := by
  have o : ∀ t, ¬ t = 33 → xSM t = fun _ _ => 0 := by
    intro t h
    unfold xSM
    rw [xup_o h, xup_o h, xup_o h]
  refine ⟨?_, by rw [o 7 (by decide)]; rfl, fun j hj => absurd hj (Nat.not_lt_zero j), fun i hi => ⟨by rw [o 36 (by decide), tT_o _ (by decide)]; rfl, fun q => ?_⟩, by rw [o 7 (by decide)]; rfl, fun j hj => absurd hj (Nat.not_lt_zero j)⟩
  · intro i hi hc
    rw [Nat.zero_add]
    unfold xSM
    rw [xup_s, xup_s, xup_s]
    by_cases c2 : i = 2
    · rw [if_pos c2, c2]; rfl
    · rw [if_neg c2]
      by_cases c1 : i = 1
      · rw [if_pos c1, c1]; rfl
      · rw [if_neg c1]
        by_cases c0 : i = 0
        · rw [if_pos c0, c0]; rfl
        · rw [if_neg c0, tT_0 (by omega)]; rfl
  · rw [tT_o _ (by decide)] at q; exact absurd q (by decide)
theorem start_ok : ∃ S1, f6_refresh xS0 = some (S1, none) ∧ CI (xS2 S1) tT ∧ MI (xS2 S1) tT := by
  obtain ⟨S1, e, g1, -, -⟩ := CJ_refresh tT_AV xS0_CJ
  refine ⟨S1, e, CI_fr g1 (fun t h7 h32 => ?_), MI_fr xSM_MI (fun t h => ?_)⟩
  · funext o
    show (if xcls t = true then xSM t o else S1 t o) = S1 t o
    rw [if_neg (by simp only [xcls, decide_eq_true_eq]; omega)]
  · funext o
    show (if xcls t = true then xSM t o else S1 t o) = xSM t o
    rw [if_pos (by simp only [xcls, decide_eq_true_eq]; omega)]
/-- a command of the law -/
theorem law_step {F6 F7 : xSt → Option xR} {T : wS} (h : OKc F6 F7 T) {S : xSt} (hC : CI S T) (hM : MI S T) {k : xSt → Option xR} (hk : ∀ (S' : xSt) (T' : wS), AI T' → CI S' T' → MI S' T' → ∃ out, k S' = some out) (z : xSt → Option xR) :
    ∃ out, (xbI (F6 S) fun S4 r5 => xbI (F7 S4) fun S8 r9 => if r5 = r9 then k S8 else z S8) = some out := by
  obtain ⟨S1, S2, v, T', e1, e2, g1, g2, g3⟩ := OKc_use h hC hM
  obtain ⟨out, ho⟩ := hk S2 T' g1 g2 g3
  refine ⟨out, ?_⟩
  rw [e1, xbI_eq, e2, xbI_eq, if_pos rfl]
  exact ho
theorem law_c0 {L : Nat} {xs : Nat → Int32} {F i : Nat} {S : xSt} {T : wS} (hA : AI T) (hC : CI S T) (hM : MI S T) (a1 : ∀ k, xat (nI i + 1) L k = k (i + 1)) (a2 : ∀ k, xat (nI i + 2) L k = k (i + 2)) (hk : ∀ (S' : xSt) (T' : wS), AI T' → CI S' T' → MI S' T' → ∃ out, fL_law_J665 L xs (fL_law_L18 L xs F) S' (nI i) = some out) : ∃ out, (xat (nI i + 1) L fun j2 => xat (nI i + 2) L fun j3 => xbI (f6_set S (xs j2) (xs j3)) fun S4 r5 => xat (nI i + 1) L fun j6 => xat (nI i + 2) L fun j7 => xbI (f7_set S4 (xs j6) (xs j7)) fun S8 r9 => if r5 = r9 then fL_law_J665 L xs (fL_law_L18 L xs F) S8 (nI i) else xne ((0 : Int32) = 1) (some (S8, some (.int (0 : Int32))))) = some out := by
  simp only [a1, a2]
  exact law_step (set_ok hA (xs (i + 1)) (xs (i + 2))) hC hM hk _
theorem law_c1 {L : Nat} {xs : Nat → Int32} {F i : Nat} {S : xSt} {T : wS} (hA : AI T) (hC : CI S T) (hM : MI S T) (a1 : ∀ k, xat (nI i + 1) L k = k (i + 1)) (a2 : ∀ k, xat (nI i + 2) L k = k (i + 2)) (hk : ∀ (S' : xSt) (T' : wS), AI T' → CI S' T' → MI S' T' → ∃ out, fL_law_J665 L xs (fL_law_L18 L xs F) S' (nI i) = some out) : ∃ out, (xat (nI i + 1) L fun j2 => xat (nI i + 2) L fun j3 => xbI (f6_add S (xs j2) (xs j3)) fun S4 r5 => xat (nI i + 1) L fun j6 => xat (nI i + 2) L fun j7 => xbI (f7_add S4 (xs j6) (xs j7)) fun S8 r9 => if r5 = r9 then fL_law_J665 L xs (fL_law_L18 L xs F) S8 (nI i) else xne ((0 : Int32) = 1) (some (S8, some (.int (0 : Int32))))) = some out := by
  simp only [a1, a2]
  exact law_step (add_ok hA (xs (i + 1)) (xs (i + 2))) hC hM hk _
theorem law_c2 {L : Nat} {xs : Nat → Int32} {F i : Nat} {S : xSt} {T : wS} (hA : AI T) (hC : CI S T) (hM : MI S T) (a1 : ∀ k, xat (nI i + 1) L k = k (i + 1)) (a2 : ∀ k, xat (nI i + 2) L k = k (i + 2)) (hk : ∀ (S' : xSt) (T' : wS), AI T' → CI S' T' → MI S' T' → ∃ out, fL_law_J665 L xs (fL_law_L18 L xs F) S' (nI i) = some out) : ∃ out, (xat (nI i + 1) L fun j2 => xbI (f6_cut S (xs j2)) fun S4 r5 => xat (nI i + 1) L fun j6 => xbI (f7_cut S4 (xs j6)) fun S8 r9 => if r5 = r9 then fL_law_J665 L xs (fL_law_L18 L xs F) S8 (nI i) else xne ((0 : Int32) = 1) (some (S8, some (.int (0 : Int32))))) = some out := by
  simp only [a1]
  exact law_step (cut_ok hA (xs (i + 1))) hC hM hk _
theorem law_c3 {L : Nat} {xs : Nat → Int32} {F i : Nat} {S : xSt} {T : wS} (hA : AI T) (hC : CI S T) (hM : MI S T) (a1 : ∀ k, xat (nI i + 1) L k = k (i + 1)) (a2 : ∀ k, xat (nI i + 2) L k = k (i + 2)) (hk : ∀ (S' : xSt) (T' : wS), AI T' → CI S' T' → MI S' T' → ∃ out, fL_law_J665 L xs (fL_law_L18 L xs F) S' (nI i) = some out) : ∃ out, (xat (nI i + 1) L fun j2 => xat (nI i + 2) L fun j3 => xbI (f6_spoil S (xs j2) (xs j3)) fun S4 r5 => xat (nI i + 1) L fun j6 => xat (nI i + 2) L fun j7 => xbI (f7_spoil S4 (xs j6) (xs j7)) fun S8 r9 => if r5 = r9 then fL_law_J665 L xs (fL_law_L18 L xs F) S8 (nI i) else xne ((0 : Int32) = 1) (some (S8, some (.int (0 : Int32))))) = some out := by
  simp only [a1, a2]
  exact law_step (spoil_ok hA (xs (i + 1)) (xs (i + 2))) hC hM hk _
theorem law_c4 {L : Nat} {xs : Nat → Int32} {F i : Nat} {S : xSt} {T : wS} (hA : AI T) (hC : CI S T) (hM : MI S T) (a1 : ∀ k, xat (nI i + 1) L k = k (i + 1)) (a2 : ∀ k, xat (nI i + 2) L k = k (i + 2)) (hk : ∀ (S' : xSt) (T' : wS), AI T' → CI S' T' → MI S' T' → ∃ out, fL_law_J665 L xs (fL_law_L18 L xs F) S' (nI i) = some out) : ∃ out, (xat (nI i + 1) L fun j2 => xat (nI i + 2) L fun j3 => xbI (f6_put S ((((xs j2)).toInt64 <<< ((32 : Int32).toInt64 &&& 63)) ||| (((xs j3)).toInt64 &&& (4294967295 : Int64)))) fun S4 r5 => xat (nI i + 1) L fun j6 => xat (nI i + 2) L fun j7 => xbI (f7_put S4 ((((xs j6)).toInt64 <<< ((32 : Int32).toInt64 &&& 63)) ||| (((xs j7)).toInt64 &&& (4294967295 : Int64)))) fun S8 r9 => if r5 = r9 then fL_law_J665 L xs (fL_law_L18 L xs F) S8 (nI i) else xne ((0 : Int32) = 1) (some (S8, some (.int (0 : Int32))))) = some out := by
  simp only [a1, a2]
  exact law_step (put_ok hA ((((xs (i + 1))).toInt64 <<< ((32 : Int32).toInt64 &&& 63)) ||| (((xs (i + 2))).toInt64 &&& (4294967295 : Int64)))) hC hM hk _
theorem law_c5 {L : Nat} {xs : Nat → Int32} {F i : Nat} {S : xSt} {T : wS} (hA : AI T) (hC : CI S T) (hM : MI S T) (a1 : ∀ k, xat (nI i + 1) L k = k (i + 1)) (a2 : ∀ k, xat (nI i + 2) L k = k (i + 2)) (hk : ∀ (S' : xSt) (T' : wS), AI T' → CI S' T' → MI S' T' → ∃ out, fL_law_J665 L xs (fL_law_L18 L xs F) S' (nI i) = some out) : ∃ out, (xbI (f6_wipe S) fun S4 r5 => xbI (f7_wipe S4) fun S8 r9 => if r5 = r9 then fL_law_J665 L xs (fL_law_L18 L xs F) S8 (nI i) else xne ((0 : Int32) = 1) (some (S8, some (.int (0 : Int32))))) = some out :=
  law_step (wipe_ok hA) hC hM hk _
theorem law_c6 {L : Nat} {xs : Nat → Int32} {F i : Nat} {S : xSt} {T : wS} (hA : AI T) (hC : CI S T) (hM : MI S T) (a1 : ∀ k, xat (nI i + 1) L k = k (i + 1)) (a2 : ∀ k, xat (nI i + 2) L k = k (i + 2)) (hk : ∀ (S' : xSt) (T' : wS), AI T' → CI S' T' → MI S' T' → ∃ out, fL_law_J665 L xs (fL_law_L18 L xs F) S' (nI i) = some out) : ∃ out, (xbI (f6_fault S) fun S4 r5 => xbI (f7_fault S4) fun S8 r9 => if r5 = r9 then fL_law_J665 L xs (fL_law_L18 L xs F) S8 (nI i) else xne ((0 : Int32) = 1) (some (S8, some (.int (0 : Int32))))) = some out :=
  law_step (fault_ok hA) hC hM hk _
theorem law_c7 {L : Nat} {xs : Nat → Int32} {F i : Nat} {S : xSt} {T : wS} (hA : AI T) (hC : CI S T) (hM : MI S T) (a1 : ∀ k, xat (nI i + 1) L k = k (i + 1)) (a2 : ∀ k, xat (nI i + 2) L k = k (i + 2)) (hk : ∀ (S' : xSt) (T' : wS), AI T' → CI S' T' → MI S' T' → ∃ out, fL_law_J665 L xs (fL_law_L18 L xs F) S' (nI i) = some out) : ∃ out, (xbI (f6_load S) fun S4 r5 => xbI (f7_load S4) fun S8 r9 => if r5 = r9 then fL_law_J665 L xs (fL_law_L18 L xs F) S8 (nI i) else xne ((0 : Int32) = 1) (some (S8, some (.int (0 : Int32))))) = some out :=
  law_step (load_ok hA) hC hM hk _
theorem law_c8 {L : Nat} {xs : Nat → Int32} {F i : Nat} {S : xSt} {T : wS} (hA : AI T) (hC : CI S T) (hM : MI S T) (a1 : ∀ k, xat (nI i + 1) L k = k (i + 1)) (a2 : ∀ k, xat (nI i + 2) L k = k (i + 2)) (hk : ∀ (S' : xSt) (T' : wS), AI T' → CI S' T' → MI S' T' → ∃ out, fL_law_J665 L xs (fL_law_L18 L xs F) S' (nI i) = some out) : ∃ out, (xat (nI i + 1) L fun j2 => xbI (f6_sign S (xs j2)) fun S4 r5 => xat (nI i + 1) L fun j6 => xbI (f7_sign S4 (xs j6)) fun S8 r9 => if r5 = r9 then fL_law_J665 L xs (fL_law_L18 L xs F) S8 (nI i) else xne ((0 : Int32) = 1) (some (S8, some (.int (0 : Int32))))) = some out := by
  simp only [a1]
  exact law_step (sign_ok hA (xs (i + 1))) hC hM hk _
theorem law_c9 {L : Nat} {xs : Nat → Int32} {F i : Nat} {S : xSt} {T : wS} (hA : AI T) (hC : CI S T) (hM : MI S T) (a1 : ∀ k, xat (nI i + 1) L k = k (i + 1)) (a2 : ∀ k, xat (nI i + 2) L k = k (i + 2)) (hk : ∀ (S' : xSt) (T' : wS), AI T' → CI S' T' → MI S' T' → ∃ out, fL_law_J665 L xs (fL_law_L18 L xs F) S' (nI i) = some out) : ∃ out, (xat (nI i + 1) L fun j2 => xat (nI i + 2) L fun j3 => xbI (f6_ofCode S (xs j2) (xs j3)) fun S4 r5 => xat (nI i + 1) L fun j6 => xat (nI i + 2) L fun j7 => xbI (f7_ofCode S4 (xs j6) (xs j7)) fun S8 r9 => if r5 = r9 then fL_law_J665 L xs (fL_law_L18 L xs F) S8 (nI i) else xne ((0 : Int32) = 1) (some (S8, some (.int (0 : Int32))))) = some out := by
  simp only [a1, a2]
  exact law_step (ofCode_ok hA (xs (i + 1)) (xs (i + 2))) hC hM hk _
theorem law_c10 {L : Nat} {xs : Nat → Int32} {F i : Nat} {S : xSt} {T : wS} (hA : AI T) (hC : CI S T) (hM : MI S T) (a1 : ∀ k, xat (nI i + 1) L k = k (i + 1)) (a2 : ∀ k, xat (nI i + 2) L k = k (i + 2)) (hk : ∀ (S' : xSt) (T' : wS), AI T' → CI S' T' → MI S' T' → ∃ out, fL_law_J665 L xs (fL_law_L18 L xs F) S' (nI i) = some out) : ∃ out, (xat (nI i + 1) L fun j2 => xbI (f6_count S (xs j2)) fun S4 r5 => xat (nI i + 1) L fun j6 => xbI (f7_count S4 (xs j6)) fun S8 r9 => if r5 = r9 then fL_law_J665 L xs (fL_law_L18 L xs F) S8 (nI i) else xne ((0 : Int32) = 1) (some (S8, some (.int (0 : Int32))))) = some out := by
  simp only [a1]
  exact law_step (count_ok hA (xs (i + 1))) hC hM hk _
theorem law_c11 {L : Nat} {xs : Nat → Int32} {F i : Nat} {S : xSt} {T : wS} (hA : AI T) (hC : CI S T) (hM : MI S T) (a1 : ∀ k, xat (nI i + 1) L k = k (i + 1)) (a2 : ∀ k, xat (nI i + 2) L k = k (i + 2)) (hk : ∀ (S' : xSt) (T' : wS), AI T' → CI S' T' → MI S' T' → ∃ out, fL_law_J665 L xs (fL_law_L18 L xs F) S' (nI i) = some out) : ∃ out, (xat (nI i + 1) L fun j2 => xat (nI i + 2) L fun j3 => xbI (f6_entry S (xs j2) (xs j3)) fun S4 r5 => xat (nI i + 1) L fun j6 => xat (nI i + 2) L fun j7 => xbI (f7_entry S4 (xs j6) (xs j7)) fun S8 r9 => if r5 = r9 then fL_law_J665 L xs (fL_law_L18 L xs F) S8 (nI i) else xne ((0 : Int32) = 1) (some (S8, some (.int (0 : Int32))))) = some out := by
  simp only [a1, a2]
  exact law_step (entry_ok hA (xs (i + 1)) (xs (i + 2))) hC hM hk _
theorem law_c12 {L : Nat} {xs : Nat → Int32} {F i : Nat} {S : xSt} {T : wS} (hA : AI T) (hC : CI S T) (hM : MI S T) (a1 : ∀ k, xat (nI i + 1) L k = k (i + 1)) (a2 : ∀ k, xat (nI i + 2) L k = k (i + 2)) (hk : ∀ (S' : xSt) (T' : wS), AI T' → CI S' T' → MI S' T' → ∃ out, fL_law_J665 L xs (fL_law_L18 L xs F) S' (nI i) = some out) : ∃ out, (xat (nI i + 1) L fun j2 => xbI (f6_reading S (xs j2)) fun S4 r5 => xat (nI i + 1) L fun j6 => xbI (f7_reading S4 (xs j6)) fun S8 r9 => if r5 = r9 then fL_law_J665 L xs (fL_law_L18 L xs F) S8 (nI i) else xne ((0 : Int32) = 1) (some (S8, some (.int (0 : Int32))))) = some out := by
  simp only [a1]
  exact law_step (reading_ok hA (xs (i + 1))) hC hM hk _
theorem law_c13 {L : Nat} {xs : Nat → Int32} {F i : Nat} {S : xSt} {T : wS} (hA : AI T) (hC : CI S T) (hM : MI S T) (a1 : ∀ k, xat (nI i + 1) L k = k (i + 1)) (a2 : ∀ k, xat (nI i + 2) L k = k (i + 2)) (hk : ∀ (S' : xSt) (T' : wS), AI T' → CI S' T' → MI S' T' → ∃ out, fL_law_J665 L xs (fL_law_L18 L xs F) S' (nI i) = some out) : ∃ out, (xat (nI i + 1) L fun j2 => xbI (f6_read S (xs j2)) fun S4 r5 => xat (nI i + 1) L fun j6 => xbI (f7_read S4 (xs j6)) fun S8 r9 => if r5 = r9 then fL_law_J665 L xs (fL_law_L18 L xs F) S8 (nI i) else xne ((0 : Int32) = 1) (some (S8, some (.int (0 : Int32))))) = some out := by
  simp only [a1]
  exact law_step (read_ok hA (xs (i + 1))) hC hM hk _
theorem law_c14 {L : Nat} {xs : Nat → Int32} {F i : Nat} {S : xSt} {T : wS} (hA : AI T) (hC : CI S T) (hM : MI S T) (a1 : ∀ k, xat (nI i + 1) L k = k (i + 1)) (a2 : ∀ k, xat (nI i + 2) L k = k (i + 2)) (hk : ∀ (S' : xSt) (T' : wS), AI T' → CI S' T' → MI S' T' → ∃ out, fL_law_J665 L xs (fL_law_L18 L xs F) S' (nI i) = some out) : ∃ out, (xat (nI i + 1) L fun j2 => xat (nI i + 2) L fun j3 => xbI (f6_bitsWith S (xs j2) (xs j3)) fun S4 r5 => xat (nI i + 1) L fun j6 => xat (nI i + 2) L fun j7 => xbI (f7_bitsWith S4 (xs j6) (xs j7)) fun S8 r9 => if r5 = r9 then fL_law_J665 L xs (fL_law_L18 L xs F) S8 (nI i) else xne ((0 : Int32) = 1) (some (S8, some (.int (0 : Int32))))) = some out := by
  simp only [a1, a2]
  exact law_step (bitsWith_ok hA (xs (i + 1)) (xs (i + 2))) hC hM hk _
theorem law_c15 {L : Nat} {xs : Nat → Int32} {F i : Nat} {S : xSt} {T : wS} (hA : AI T) (hC : CI S T) (hM : MI S T) (a1 : ∀ k, xat (nI i + 1) L k = k (i + 1)) (a2 : ∀ k, xat (nI i + 2) L k = k (i + 2)) (hk : ∀ (S' : xSt) (T' : wS), AI T' → CI S' T' → MI S' T' → ∃ out, fL_law_J665 L xs (fL_law_L18 L xs F) S' (nI i) = some out) : ∃ out, (xat (nI i + 1) L fun j2 => xbI (f6_best S (xs j2)) fun S4 r5 => xat (nI i + 1) L fun j6 => xbI (f7_best S4 (xs j6)) fun S8 r9 => if r5 = r9 then fL_law_J665 L xs (fL_law_L18 L xs F) S8 (nI i) else xne ((0 : Int32) = 1) (some (S8, some (.int (0 : Int32))))) = some out := by
  simp only [a1]
  exact law_step (best_ok hA (xs (i + 1))) hC hM hk _
theorem law_c16 {L : Nat} {xs : Nat → Int32} {F i : Nat} {S : xSt} {T : wS} (hA : AI T) (hC : CI S T) (hM : MI S T) (a1 : ∀ k, xat (nI i + 1) L k = k (i + 1)) (a2 : ∀ k, xat (nI i + 2) L k = k (i + 2)) (hk : ∀ (S' : xSt) (T' : wS), AI T' → CI S' T' → MI S' T' → ∃ out, fL_law_J665 L xs (fL_law_L18 L xs F) S' (nI i) = some out) : ∃ out, (xat (nI i + 1) L fun j2 => xbI (f6_tenderest S (xs j2)) fun S4 r5 => xat (nI i + 1) L fun j6 => xbI (f7_tenderest S4 (xs j6)) fun S8 r9 => if r5 = r9 then fL_law_J665 L xs (fL_law_L18 L xs F) S8 (nI i) else xne ((0 : Int32) = 1) (some (S8, some (.int (0 : Int32))))) = some out := by
  simp only [a1]
  exact law_step (tenderest_ok hA (xs (i + 1))) hC hM hk _
theorem law_c17 {L : Nat} {xs : Nat → Int32} {F i : Nat} {S : xSt} {T : wS} (hA : AI T) (hC : CI S T) (hM : MI S T) (a1 : ∀ k, xat (nI i + 1) L k = k (i + 1)) (a2 : ∀ k, xat (nI i + 2) L k = k (i + 2)) (hk : ∀ (S' : xSt) (T' : wS), AI T' → CI S' T' → MI S' T' → ∃ out, fL_law_J665 L xs (fL_law_L18 L xs F) S' (nI i) = some out) : ∃ out, (xat (nI i + 1) L fun j2 => xbI (f6_cheapest S (xs j2)) fun S4 r5 => xat (nI i + 1) L fun j6 => xbI (f7_cheapest S4 (xs j6)) fun S8 r9 => if r5 = r9 then fL_law_J665 L xs (fL_law_L18 L xs F) S8 (nI i) else xne ((0 : Int32) = 1) (some (S8, some (.int (0 : Int32))))) = some out := by
  simp only [a1]
  exact law_step (cheapest_ok hA (xs (i + 1))) hC hM hk _
theorem law_c18 {L : Nat} {xs : Nat → Int32} {F i : Nat} {S : xSt} {T : wS} (hA : AI T) (hC : CI S T) (hM : MI S T) (a1 : ∀ k, xat (nI i + 1) L k = k (i + 1)) (a2 : ∀ k, xat (nI i + 2) L k = k (i + 2)) (hk : ∀ (S' : xSt) (T' : wS), AI T' → CI S' T' → MI S' T' → ∃ out, fL_law_J665 L xs (fL_law_L18 L xs F) S' (nI i) = some out) : ∃ out, (xbI (f6_undo S) fun S4 r5 => xbI (f7_undo S4) fun S8 r9 => if r5 = r9 then fL_law_J665 L xs (fL_law_L18 L xs F) S8 (nI i) else xne ((0 : Int32) = 1) (some (S8, some (.int (0 : Int32))))) = some out :=
  law_step (undo_ok hA) hC hM hk _
theorem law_c19 {L : Nat} {xs : Nat → Int32} {F i : Nat} {S : xSt} {T : wS} (hA : AI T) (hC : CI S T) (hM : MI S T) (a1 : ∀ k, xat (nI i + 1) L k = k (i + 1)) (a2 : ∀ k, xat (nI i + 2) L k = k (i + 2)) (hk : ∀ (S' : xSt) (T' : wS), AI T' → CI S' T' → MI S' T' → ∃ out, fL_law_J665 L xs (fL_law_L18 L xs F) S' (nI i) = some out) : ∃ out, (xat (nI i + 1) L fun j2 => xbI (f6_save S (xs j2)) fun S4 r5 => xat (nI i + 1) L fun j6 => xbI (f7_save S4 (xs j6)) fun S8 r9 => if r5 = r9 then fL_law_J665 L xs (fL_law_L18 L xs F) S8 (nI i) else xne ((0 : Int32) = 1) (some (S8, some (.int (0 : Int32))))) = some out := by
  simp only [a1]
  exact law_step (save_ok hA (xs (i + 1))) hC hM hk _
theorem law_c20 {L : Nat} {xs : Nat → Int32} {F i : Nat} {S : xSt} {T : wS} (hA : AI T) (hC : CI S T) (hM : MI S T) (a1 : ∀ k, xat (nI i + 1) L k = k (i + 1)) (a2 : ∀ k, xat (nI i + 2) L k = k (i + 2)) (hk : ∀ (S' : xSt) (T' : wS), AI T' → CI S' T' → MI S' T' → ∃ out, fL_law_J665 L xs (fL_law_L18 L xs F) S' (nI i) = some out) : ∃ out, (xat (nI i + 1) L fun j2 => xbI (f6_restore S (xs j2)) fun S4 r5 => xat (nI i + 1) L fun j6 => xbI (f7_restore S4 (xs j6)) fun S8 r9 => if r5 = r9 then fL_law_J665 L xs (fL_law_L18 L xs F) S8 (nI i) else xne ((0 : Int32) = 1) (some (S8, some (.int (0 : Int32))))) = some out := by
  simp only [a1]
  exact law_step (restore_ok hA (xs (i + 1))) hC hM hk _
theorem law_all {L : Nat} {xs : Nat → Int32} (hL : L ≤ 1536) : ∀ (F i : Nat) (S : xSt) (T : wS), L + 4 ≤ i + F → i ≤ L + 3 → AI T → CI S T → MI S T → ∃ out, fL_law_L18 L xs F S (nI i) = some out
  | 0, i, S, T, h, hi, _, _, _ => by
    exact absurd h (by omega)
  | F + 1, i, S, T, h, hi, hA, hC, hM => by
    show ∃ out, bL_law_L18 L xs (fL_law_L18 L xs F) S (nI i) = some out
    unfold bL_law_L18
    by_cases c : i + 3 ≤ L
    · have h3 : nI L - 3 = nI (L - 3) := pk_sub (b := 3) (by omega)
      rw [h3, if_neg (nI_nlt (by omega) (by omega)), xat_ok (by omega) (by omega)]
      have hk : ∀ (S' : xSt) (T' : wS), AI T' → CI S' T' → MI S' T' → ∃ out, fL_law_J665 L xs (fL_law_L18 L xs F) S' (nI i) = some out := by
        intro S' T' q1 q2 q3
        unfold fL_law_J665
        rw [show nI i + 3 = nI (i + 3) from nI_add i 3]
        exact law_all hL F (i + 3) S' T' (by omega) (by omega) q1 q2 q3
      have a1 : ∀ k, xat (nI i + 1) L k = k (i + 1) := fun k => by rw [nI_1]; exact xat_ok (by omega) (by omega)
      have a2 : ∀ k, xat (nI i + 2) L k = k (i + 2) := fun k => by rw [show nI i + 2 = nI (i + 2) from nI_add i 2]; exact xat_ok (by omega) (by omega)
      rcases arg_sw (xs i &&& 31) 20 (by decide) with hx | ⟨j, hj, hx⟩
      · have hx' : (xs i &&& 31).toInt < 0 ∨ 20 < (xs i &&& 31).toInt := hx
        rw [if_pos hx']; exact hk S T hA hC hM
      · rw [hx]
        have hd : j = 0 ∨ j = 1 ∨ j = 2 ∨ j = 3 ∨ j = 4 ∨ j = 5 ∨ j = 6 ∨ j = 7 ∨ j = 8 ∨ j = 9 ∨ j = 10 ∨ j = 11 ∨ j = 12 ∨ j = 13 ∨ j = 14 ∨ j = 15 ∨ j = 16 ∨ j = 17 ∨ j = 18 ∨ j = 19 ∨ j = 20 := by omega
        rcases hd with rfl | rfl | rfl | rfl | rfl | rfl | rfl | rfl | rfl | rfl | rfl | rfl | rfl | rfl | rfl | rfl | rfl | rfl | rfl | rfl | rfl
        · rw [if_neg (show ¬ ((nI 0).toInt < 0 ∨ 20 < (nI 0).toInt) by decide)]
          exact law_c0 hA hC hM a1 a2 hk
        · rw [if_neg (show ¬ ((nI 1).toInt < 0 ∨ 20 < (nI 1).toInt) by decide)]
          exact law_c1 hA hC hM a1 a2 hk
        · rw [if_neg (show ¬ ((nI 2).toInt < 0 ∨ 20 < (nI 2).toInt) by decide)]
          exact law_c2 hA hC hM a1 a2 hk
        · rw [if_neg (show ¬ ((nI 3).toInt < 0 ∨ 20 < (nI 3).toInt) by decide)]
          exact law_c3 hA hC hM a1 a2 hk
        · rw [if_neg (show ¬ ((nI 4).toInt < 0 ∨ 20 < (nI 4).toInt) by decide)]
          exact law_c4 hA hC hM a1 a2 hk
        · rw [if_neg (show ¬ ((nI 5).toInt < 0 ∨ 20 < (nI 5).toInt) by decide)]
          exact law_c5 hA hC hM a1 a2 hk
        · rw [if_neg (show ¬ ((nI 6).toInt < 0 ∨ 20 < (nI 6).toInt) by decide)]
          exact law_c6 hA hC hM a1 a2 hk
        · rw [if_neg (show ¬ ((nI 7).toInt < 0 ∨ 20 < (nI 7).toInt) by decide)]
          exact law_c7 hA hC hM a1 a2 hk
        · rw [if_neg (show ¬ ((nI 8).toInt < 0 ∨ 20 < (nI 8).toInt) by decide)]
          exact law_c8 hA hC hM a1 a2 hk
        · rw [if_neg (show ¬ ((nI 9).toInt < 0 ∨ 20 < (nI 9).toInt) by decide)]
          exact law_c9 hA hC hM a1 a2 hk
        · rw [if_neg (show ¬ ((nI 10).toInt < 0 ∨ 20 < (nI 10).toInt) by decide)]
          exact law_c10 hA hC hM a1 a2 hk
        · rw [if_neg (show ¬ ((nI 11).toInt < 0 ∨ 20 < (nI 11).toInt) by decide)]
          exact law_c11 hA hC hM a1 a2 hk
        · rw [if_neg (show ¬ ((nI 12).toInt < 0 ∨ 20 < (nI 12).toInt) by decide)]
          exact law_c12 hA hC hM a1 a2 hk
        · rw [if_neg (show ¬ ((nI 13).toInt < 0 ∨ 20 < (nI 13).toInt) by decide)]
          exact law_c13 hA hC hM a1 a2 hk
        · rw [if_neg (show ¬ ((nI 14).toInt < 0 ∨ 20 < (nI 14).toInt) by decide)]
          exact law_c14 hA hC hM a1 a2 hk
        · rw [if_neg (show ¬ ((nI 15).toInt < 0 ∨ 20 < (nI 15).toInt) by decide)]
          exact law_c15 hA hC hM a1 a2 hk
        · rw [if_neg (show ¬ ((nI 16).toInt < 0 ∨ 20 < (nI 16).toInt) by decide)]
          exact law_c16 hA hC hM a1 a2 hk
        · rw [if_neg (show ¬ ((nI 17).toInt < 0 ∨ 20 < (nI 17).toInt) by decide)]
          exact law_c17 hA hC hM a1 a2 hk
        · rw [if_neg (show ¬ ((nI 18).toInt < 0 ∨ 20 < (nI 18).toInt) by decide)]
          exact law_c18 hA hC hM a1 a2 hk
        · rw [if_neg (show ¬ ((nI 19).toInt < 0 ∨ 20 < (nI 19).toInt) by decide)]
          exact law_c19 hA hC hM a1 a2 hk
        · rw [if_neg (show ¬ ((nI 20).toInt < 0 ∨ 20 < (nI 20).toInt) by decide)]
          exact law_c20 hA hC hM a1 a2 hk
    · have h3 : nI L - 3 < nI i := by
        rw [Int32.lt_iff_toInt_lt, show (3 : Int32) = nI 3 from rfl, pk_sub_toInt (by omega) (by omega), nI_toInt (by omega)]
        omega
      rw [if_pos h3]
      exact ⟨_, if_pos rfl⟩
