/-! arguments, and the reference writing now -/
theorem xbI_eq (S : xSt) (v : Int32) (k : xSt → Int32 → Option xR) : xbI (some (S, some (.int v))) k = k S v := rfl
theorem xbV_eq (S : xSt) (k : xSt → Option xR) : xbV (some (S, none)) k = k S := rfl
theorem arg_lt {x : Int32} {n : Nat} (hn : n < 2 ^ 31) (h0 : ¬ x < 0) (h : x < nI n) : ∃ j, j < n ∧ x = nI j := by
  obtain ⟨j, hj, rfl⟩ := nI_of2 (M := nI n) (n := n) (nI_toInt hn) h0 (Int32.le_of_lt h)
  refine ⟨j, ?_, rfl⟩
  by_cases c : j < n
  · exact c
  · exact absurd h (nI_nlt (by omega) (by omega))
theorem arg_sw (x : Int32) (b : Nat) (hb : b < 2 ^ 31) : (x.toInt < 0 ∨ (b : Int) < x.toInt) ∨ ∃ j, j ≤ b ∧ x = nI j := by
  by_cases c : x.toInt < 0 ∨ (b : Int) < x.toInt
  · exact Or.inl c
  · have h0 : ¬ x < 0 := fun q => by
      rw [Int32.lt_iff_toInt_lt] at q
      exact c (Or.inl q)
    have h1 : x ≤ nI b := by
      rw [Int32.le_iff_toInt_le, nI_toInt hb]
      exact Int.not_lt.mp (fun q => c (Or.inr q))
    obtain ⟨j, hj, e⟩ := nI_of2 (M := nI b) (n := b) (nI_toInt hb) h0 h1
    exact Or.inr ⟨j, hj, e⟩
theorem in_lt (S : xSt) (a : Int32) {n : Nat} (hn : n < 2 ^ 31) : f7_in S a 0 (nI n - 1) = some (S, some (.int (if 0 ≤ a ∧ a < nI n then 1 else 0))) := by
  rw [f7_in_ok]
  have e : (0 ≤ a ∧ a ≤ nI n - 1) ↔ (0 ≤ a ∧ a < nI n) := by
    cases n with
    | zero =>
      constructor
      · intro q
        exact absurd (Int32.le_trans q.1 q.2) (by decide)
      · intro q
        exact absurd q.2 (Int32.not_lt.mpr q.1)
    | succ n =>
      have e1 : nI (n + 1) - 1 = nI n := pk_sub (b := 1) (by omega)
      rw [e1]
      constructor
      · intro q
        obtain ⟨j, hj, rfl⟩ := nI_of2 (M := nI n) (n := n) (nI_toInt (by omega)) (Int32.not_lt.mpr q.1) q.2
        exact ⟨q.1, nI_lt (by omega) (by omega)⟩
      · intro q
        obtain ⟨j, hj, rfl⟩ := arg_lt hn (Int32.not_lt.mpr q.1) q.2
        exact ⟨q.1, nI_le (by omega) (by omega)⟩
  by_cases c : 0 ≤ a ∧ a < nI n
  · rw [if_pos c, if_pos (e.mpr c)]
  · rw [if_neg c, if_neg (fun q => c (e.mp q))]
theorem MV0 {S : xSt} {t : Nat} {a : Nat → Nat} (h : MV S t 0 a) {i : Nat} (hi : i < 560) (h2 : i < 4 ∨ (10 ≤ i ∧ i < 10 + a 3) ∨ 250 ≤ i) : S t 0 i = nI (a i) := by
  have := h i hi h2
  rwa [Nat.zero_add] at this
theorem FM_Mfr {S S' : xSt} (h : FM S S') : Mfr S S' := fun t h7 h32 => by
  funext o
  exact h.1 t o (fun q => by omega)
theorem FR_Mfr {S S' : xSt} (h : FR S S') : Mfr S S' := fun t h7 h32 => by
  funext o
  exact h.1 t o (fun q => by omega)
theorem Mfr.tr {S S' S'' : xSt} (h : Mfr S S') (h2 : Mfr S' S'') : Mfr S S'' := fun t a b => (h2 t a b).trans (h t a b)
theorem Mfr.rf {S : xSt} : Mfr S S := fun _ _ _ => rfl
theorem Cfr.rf {S : xSt} : Cfr S S := fun _ _ => rfl
theorem MI_at {S S' : xSt} {T : wS} (h : MI S T) (h2 : S' 7 0 2 = S 7 0 2) (h6 : S' 7 0 6 = S 7 0 6) (ha : ∀ t, 33 ≤ t → t ≤ 37 → S' t 0 = S t 0) : MI S' T := by
  unfold MI MV at h ⊢
  simp only [h2, h6, ha 33 (by decide) (by decide), ha 34 (by decide) (by decide), ha 35 (by decide) (by decide), ha 36 (by decide) (by decide), ha 37 (by decide) (by decide)]
  exact h
theorem MI_FM {S S' : xSt} {T : wS} (h : MI S T) (hF : FM S S') : MI S' T :=
  MI_at h (hF.2 2 (by decide) (by decide) (by decide)) (hF.2 6 (by decide) (by decide) (by decide)) (fun t a b => hF.1 t 0 (fun q => by omega))
theorem MI_FR {S S' : xSt} {T : wS} (h : MI S T) (hF : FR S S') : MI S' T :=
  MI_at h (hF.2 2 (by decide) (by decide) (by decide) (by decide) (by decide)) (hF.2 6 (by decide) (by decide) (by decide) (by decide) (by decide)) (fun t a b => hF.1 t 0 (fun q => by omega))
theorem MV_SM {S : xSt} {a : Nat → Nat} (hA : AV a) (h : MV S 33 0 a) : SM S (mm a) (a 3) (a 2) ∧ ST0 S (a 0) (a 1) := by
  have h3 := hA.2.2.2.1
  exact ⟨⟨MV0 h (by omega) (by omega), MV0 h (by omega) (by omega), fun j hj => ⟨MV0 h (by omega) (by omega), hA.2.2.2.2.1 j hj⟩⟩, MV0 h (by omega) (by omega), MV0 h (by omega) (by omega)⟩
theorem now_ok {S : xSt} {T : wS} (hA : AV (T 0)) (hM : MI S T) : ∃ S', f7_writeNow S = some (S', none) ∧ MB S' (wa (T 0)) ∧ MC S' (wa (T 0)) ∧ MI S' T ∧ FM S S' := by
  obtain ⟨h1, h2⟩ := MV_SM hA hM.1
  obtain ⟨S', e, g1, g2, g3⟩ := f7_writeNow_ok hA.1.1 hA.1.2 hA.2.2.2.1 hA.2.1 hA.2.2.1.2 h1 h2
  exact ⟨S', e, g1, g2, MI_FM hM g3, g3⟩
/-! the queries -/
theorem sign_ok {T : wS} (hA : AI T) (x : Int32) : OKc (fun S => f6_sign S x) (fun S => f7_sign S x) T := by
  have h3 := hA.1.2.2.2.1
  by_cases c : 0 ≤ x ∧ x < nI (T 0 3)
  · obtain ⟨j, hj, rfl⟩ := arg_lt (by omega) (Int32.not_lt.mpr c.1) c.2
    refine ⟨nI (T 0 (10 + j)), T, hA, fun S hC => ⟨S, ?_, hC, Cfr.rf⟩, fun S hM => ⟨S, ?_, hM, Mfr.rf⟩⟩
    · show f6_sign S (nI j) = _
      unfold f6_sign
      rw [if_neg (Int32.not_lt.mpr c.1), hC.1.2.1, if_pos c.2, xat_ok (by omega) (by decide), hC.1.2.2.1 j hj]
    · show f7_sign S (nI j) = _
      unfold f7_sign
      rw [xat_lit (v := 3) 3 rfl (by decide) (by decide), MV0 hM.1 (i := 3) (by omega) (by omega), in_lt _ _ (by omega), if_pos c]
      rw [xbI_eq, if_neg (by decide), xat_at (j := 10 + j) (by rw [← nI_add]; rfl) (by omega) (by decide), MV0 hM.1 (i := 10 + j) (by omega) (by omega)]
  · refine ⟨-1, T, hA, fun S hC => ⟨S, ?_, hC, Cfr.rf⟩, fun S hM => ⟨S, ?_, hM, Mfr.rf⟩⟩
    · show f6_sign S x = _
      unfold f6_sign f6_sign_J15
      by_cases h0 : x < 0
      · rw [if_pos h0]
      · rw [if_neg h0, hC.1.2.1, if_neg (fun q => c ⟨Int32.not_lt.mp h0, q⟩)]
    · show f7_sign S x = _
      unfold f7_sign
      rw [xat_lit (v := 3) 3 rfl (by decide) (by decide), MV0 hM.1 (i := 3) (by omega) (by omega), in_lt _ _ (by omega), if_neg c]
      rw [xbI_eq, if_pos rfl]
theorem wipe_ok {T : wS} (hA : AI T) : OKc (fun S => f6_wipe S) (fun S => f7_wipe S) T := by
  have e0 : ∀ f, ¬ f = 1 → (wu T 1 1 0) f = T f := fun f h => wu_o h
  have e1 : ∀ i, ¬ i = 1 → (wu T 1 1 0) 1 i = T 1 i := fun i h => by rw [wu_s, if_neg h]
  have e2 : (wu T 1 1 0) 1 1 = 0 := by rw [wu_s, if_pos rfl]
  refine ⟨nI (T 1 1), wu T 1 1 0, ?_, fun S hC => ⟨xup S 2 0 4 0, ?_, ?_, fun t ht => xup_o (by omega)⟩, fun S hM => ⟨xup S 7 0 6 0, ?_, ?_, fun t a b => xup_o a⟩⟩
  · obtain ⟨a1, a2, a3, a4, a5, a6⟩ := hA
    refine ⟨by rw [e0 0 (by decide)]; exact a1, by rw [e1 0 (by decide)]; exact a2, fun j hj => ?_, fun i hi => ?_, by rw [e2]; omega, fun j hj => by rw [e2] at hj; omega⟩
    · rw [e1 0 (by decide)] at hj
      rw [e0 _ (by omega)]; exact a3 j hj
    · rw [e1 _ (by omega), e0 _ (by omega)]; exact a4 i hi
  · show f6_wipe S = _
    unfold f6_wipe
    rw [xlet_eq, hC.2.2.2.2.1]
  · obtain ⟨c1, c2, ⟨l, c3, c4, c5⟩, c6, c7, c8, c9, c10, c11⟩ := hC
    have hk : ∀ t, ¬ t = 2 → xup S 2 0 4 0 t = S t := fun t h => xup_o h
    unfold CI
    rw [e0 0 (by decide), e1 0 (by decide), e2]
    unfold CV DV CF CE CB CC CR BS at *
    simp only [hk _ (by decide : ¬ (0:Nat) = 2), hk _ (by decide : ¬ (1:Nat) = 2), hk _ (by decide : ¬ (3:Nat) = 2), hk _ (by decide : ¬ (4:Nat) = 2), hk _ (by decide : ¬ (5:Nat) = 2), hk _ (by decide : ¬ (10:Nat) = 2), hk _ (by decide : ¬ (11:Nat) = 2), hk _ (by decide : ¬ (12:Nat) = 2), hk _ (by decide : ¬ (13:Nat) = 2), hk _ (by decide : ¬ (15:Nat) = 2), hk _ (by decide : ¬ (19:Nat) = 2), hk _ (by decide : ¬ (20:Nat) = 2), hk _ (by decide : ¬ (21:Nat) = 2), hk _ (by decide : ¬ (22:Nat) = 2), hk _ (by decide : ¬ (23:Nat) = 2), hk _ (by decide : ¬ (24:Nat) = 2), hk _ (by decide : ¬ (25:Nat) = 2), hk _ (by decide : ¬ (26:Nat) = 2), hk _ (by decide : ¬ (27:Nat) = 2), hk _ (by decide : ¬ (28:Nat) = 2), hk _ (by decide : ¬ (29:Nat) = 2), hk _ (by decide : ¬ (31:Nat) = 2), hk _ (by decide : ¬ (32:Nat) = 2)]
    refine ⟨c1, c2, ⟨l, c3, c4, fun j hj => ?_⟩, fun i hi => ?_, ?_, fun j hj => absurd hj (Nat.not_lt_zero j), c9, c10, c11⟩
    · rw [e0 _ (by omega)]; exact c5 j hj
    · rw [e1 _ (by omega), e0 _ (by omega)]; exact c6 i hi
    · rw [xup_s, if_pos rfl]; rfl
  · show f7_wipe S = _
    unfold f7_wipe
    rw [xlet_eq, hM.2.2.2.2.1]
  · obtain ⟨m1, m2, m3, m4, m5, m6⟩ := hM
    unfold MI
    rw [e0 0 (by decide), e1 0 (by decide), e2]
    unfold MV at *
    rw [xup_o (show ¬ 33 = 7 by decide), xup_o (show ¬ 34 = 7 by decide), xup_o (show ¬ 35 = 7 by decide), xup_o (show ¬ 36 = 7 by decide), xup_s, if_neg (by decide), xup_s, if_pos rfl]
    refine ⟨m1, m2, fun j hj => ?_, fun i hi => ?_, rfl, fun j hj => absurd hj (Nat.not_lt_zero j)⟩
    · rw [e0 _ (by omega)]; exact m3 j hj
    · rw [e1 _ (by omega), e0 _ (by omega)]; exact m4 i hi
