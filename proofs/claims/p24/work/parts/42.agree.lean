/-! agree -/
def AW (a : Nat → Nat) : Prop := AV a ∧ a 3 ≤ 34 ∧ ∀ k, (wa a) 4 0 ≤ k → k < 281 → a (250 + k) = 0
theorem AW_K {a : Nat → Nat} (h : AW a) : (wa a) 4 0 ≤ 64 := by
  obtain ⟨hA, h3, -⟩ := h
  obtain ⟨-, -, ⟨⟨q, q1, q2⟩, -, -⟩⟩ := wr_ok (m := mm a) (n := a 3) (full := 2 ^ a 0) (po := a 1) (wi := a 2) (AV_pow hA) hA.2.2.2.1 (fun j hj => hA.2.2.2.2.1 j hj) (a 3 + 1) w0 0 (Nat.zero_le _) w0_WB (by show 10 ≤ 2 ^ a 0; have := AV_pow hA; omega) w0_WI (by omega)
  have e : (wa a) 4 0 = (wr (mm a) (a 3) (2 ^ a 0) (a 1) (a 2) (a 3 + 1) w0 0) 4 0 + 1 := by
    show (wfin (mm a) (a 3) (2 ^ a 0) (a 1) (a 2)) 4 0 = _
    unfold wfin
    rw [wcd_4]
  omega
theorem cnz_same {f : Nat → Nat} {k : Nat} : ∀ d, (∀ j, k ≤ j → j < k + d → f j = 0) → cnz f (k + d) = cnz f k
  | 0, _ => rfl
  | d + 1, h => by
    show cnz f (k + d + 1) = _
    rw [cnz, if_pos (h (k + d) (by omega) (by omega)), cnz_same d (fun j a b => h j a (by omega)), Nat.add_zero]
theorem cnz_0 {f : Nat → Nat} : ∀ {n : Nat}, cnz f n = 0 → ∀ k, k < n → f k = 0
  | 0, _, k, hk => absurd hk (Nat.not_lt_zero k)
  | n + 1, h, k, hk => by
    rw [cnz] at h
    by_cases c : f n = 0
    · by_cases ck : k = n
      · rw [ck]; exact c
      · exact cnz_0 (n := n) (by omega) k (by omega)
    · rw [if_neg c] at h; omega
theorem cnz_z {f : Nat → Nat} : ∀ {n : Nat}, (∀ k, k < n → f k = 0) → cnz f n = 0
  | 0, _ => rfl
  | n + 1, h => by rw [cnz, if_pos (h n (by omega)), cnz_z (fun k hk => h k (by omega))]
theorem xor_self_iff {x t : Nat} : x = x ^^^ t ↔ t = 0 := by
  constructor
  · intro h
    have : x ^^^ x = x ^^^ (x ^^^ t) := congrArg (fun z => x ^^^ z) h
    rw [Nat.xor_self, ← Nat.xor_assoc, Nat.xor_self, Nat.zero_xor] at this
    exact this.symm
  · intro h
    rw [h, Nat.xor_zero]
theorem ag_loop {S : xSt} {a : Nat → Nat} (hA : AV a) (hQ : QI S a) : ∀ (d F k : Nat), k + d = (wa a) 4 0 → d < F → fW_agree_L4 F S (nI (cnz (fun j => a (250 + j)) k)) (nI k) = fW_agree_J42 S (nI (cnz (fun j => a (250 + j)) ((wa a) 4 0)))
  | d, 0, _, _, h => absurd h (Nat.not_lt_zero _)
  | 0, F + 1, k, e, _ => by
    have hc := (AV_wfin hA).2.2.2.1
    show bW_agree_L4 (fW_agree_L4 F) S _ (nI k) = _
    unfold bW_agree_L4
    rw [(q_count hA hQ).2.1, xbI_eq, if_pos (nI_le (by omega) (by omega)), show k = (wa a) 4 0 by omega]
  | d + 1, F + 1, k, e, hF => by
    have hc := (AV_wfin hA).2.2.2.1
    have hk : k < (wa a) 4 0 := by omega
    have ih := ag_loop hA hQ d F (k + 1) (by omega) (by omega)
    rw [cnz] at ih
    obtain ⟨o0, o1, o2⟩ := q_ofCode hA hQ hk
    have b1 := AV_code hA hk
    have b2 := (AV_ca hA hk).2
    show bW_agree_L4 (fW_agree_L4 F) S _ (nI k) = _
    unfold bW_agree_L4 fW_agree_J34
    rw [(q_count hA hQ).2.1, xbI_eq, if_neg (nI_ge hk (by omega)), o0, xbI_eq, o1, xbI_eq, nI_1, nI_1, Int32.add_zero]
    by_cases c : a (250 + k) = 0
    · have e1 : (wa a) 5 k = ca a k := xor_self_iff.mpr c
      rw [if_pos c] at ih
      rw [if_pos (congrArg nI e1)]
      exact ih
    · have e1 : ¬ nI ((wa a) 5 k) = nI (ca a k) := by
        intro z
        have z2 : (wa a) 5 k = ca a k := nI_inj (by omega) (by omega) z
        exact c (xor_self_iff.mp z2)
      rw [if_neg c] at ih
      rw [if_neg e1]
      exact ih
theorem agree_ok {S : xSt} {a : Nat → Nat} (hW : AW a) (hQ : QI S a) : fW_agree S = some (S, some (.int 1)) := by
  have hK := AW_K hW
  obtain ⟨hA, h3, hz⟩ := hW
  have hl := ag_loop hA hQ ((wa a) 4 0) xFU 0 (by omega) (by show (wa a) 4 0 < 1000000; omega)
  have hle := cnz_le (fun j => a (250 + j)) ((wa a) 4 0)
  have he : cnz (fun j => a (250 + j)) 281 = cnz (fun j => a (250 + j)) ((wa a) 4 0) := by
    have := cnz_same (f := fun j => a (250 + j)) (k := (wa a) 4 0) (281 - (wa a) 4 0) (fun j b1 b2 => hz j b1 (by omega))
    rw [show (wa a) 4 0 + (281 - (wa a) 4 0) = 281 by omega] at this
    exact this
  unfold fW_agree
  refine hl.trans ?_
  unfold fW_agree_J42 fW_agree_J95
  rw [(q_count hA hQ).2.2.2.2.2.2.1, xbI_eq, he, if_pos rfl, areCodes_ok hA hQ hK, xbI_eq, if_neg (by decide), areEntries_ok hA hQ, xbI_eq, if_neg (by decide), isRead_ok hA hQ hK, xbI_eq, if_neg (by decide)]
  by_cases c : cnz (fun j => a (250 + j)) ((wa a) 4 0) = 0
  · obtain ⟨u1, u2⟩ := unspoiled hA (cnz_0 c) hQ
    have n0 : ¬ (0 : Int32) < nI (cnz (fun j => a (250 + j)) ((wa a) 4 0)) := by rw [c]; decide
    rw [if_neg n0, u1, xbI_eq, if_pos rfl, u2, xbI_eq, if_pos rfl, x1]
  · have p0 : (0 : Int32) < nI (cnz (fun j => a (250 + j)) ((wa a) 4 0)) := nI_lt (a := 0) (by omega) (by omega)
    rw [if_pos p0, x1]
