/-! put -/
theorem and255 (n : Nat) : nI n &&& 255 = nI (n % 256) := by
  rw [pk_and (nI n) (m := 255) 8 (by decide)]
  have e : (nI n).toBitVec.toNat = n % 2 ^ 32 := by
    show (BitVec.ofNat 32 n).toNat = _
    rw [BitVec.toNat_ofNat]
  rw [e]
  congr 1
  omega
theorem p8 (d : Nat) : 2 ^ (8 * d) = 256 ^ d := by rw [Nat.pow_mul]
theorem sub1 (d : Nat) : nI d + -1 = nI d - 1 := by rw [Int32.sub_eq_add_neg]
theorem m1_lt : (nI 0 - 1 : Int32) < 0 := by decide
theorem app6 {u : Nat} (hu : u < 2 ^ 64) : ∀ (d F q : Nat) (S : xSt), d ≤ 8 → d < F → S 2 0 4 = nI q → q + d ≤ 80 →
    ∃ S', f2_append_L5 F S (lN u) (nI d - 1) = some (S', none) ∧ S' 2 0 4 = nI (q + d) ∧ (∀ i, S' 15 0 i = if q ≤ i ∧ i < q + d then nI (u / 256 ^ (q + d - 1 - i) % 256) else S 15 0 i) ∧ ∀ t, ¬ t = 2 → ¬ t = 15 → S' t = S t
  | d, 0, _, _, _, h, _, _ => absurd h (Nat.not_lt_zero _)
  | 0, F + 1, q, S, _, _, h4, hq => by
    refine ⟨S, ?_, h4, fun i => by rw [if_neg (by omega)], fun _ _ _ => rfl⟩
    show b2_append_L5 (f2_append_L5 F) S (lN u) (nI 0 - 1) = _
    unfold b2_append_L5
    rw [if_pos m1_lt]
  | d + 1, F + 1, q, S, hd, hF, h4, hq => by
    obtain ⟨S', e1, g1, g2, g3⟩ := app6 hu d F (q + 1) (xup (xup S 15 0 q (nI (u / 256 ^ d % 256))) 2 0 4 (nI (q + 1))) (by omega) (by omega) (by rw [xup_s, if_pos rfl]) (by omega)
    refine ⟨S', ?_, by rw [g1, show q + 1 + d = q + (d + 1) by omega], fun i => ?_, fun t a b => by rw [g3 t a b, xup_o a, xup_o b]⟩
    · show b2_append_L5 (f2_append_L5 F) S (lN u) (nI (d + 1) - 1) = _
      have h80 : ¬ ((80 : Int32) ≤ nI q) := nI_ge (a := q) (b := 80) (by omega) (by decide)
      have h8 : (8 : Int32) * nI d = nI (8 * d) := by rw [show (8 : Int32) = nI 8 from rfl, pk_mul]
      have hch : (((lN u).toUInt64 >>> ((nI (8 * d)).toInt64.toUInt64 &&& Int64.toUInt64 63)).toInt64).toInt32 &&& (255 : Int32) = nI (u / 256 ^ d % 256) := by
        rw [wb_shr hu (by omega), lN_i, and255, p8]
      unfold b2_append_L5
      rw [nI_pred, if_neg (nI_pos (by omega)), h4, if_neg h80, xat_ok (by omega) (by decide), h8, hch, xlet_eq, xup_o (by decide), h4, nI_1, xlet_eq, sub1]
      exact e1
    · rw [g2, xup_o (by decide), xup_s]
      by_cases c : q + 1 ≤ i ∧ i < q + 1 + d
      · rw [if_pos c, if_pos (by omega), show q + 1 + d - 1 - i = q + (d + 1) - 1 - i by omega]
      · rw [if_neg c]
        by_cases c2 : i = q
        · rw [if_pos c2, if_pos (by omega), show q + (d + 1) - 1 - i = d by omega]
        · rw [if_neg c2, if_neg (by omega)]
theorem app7 {p M : Nat} (hp : p + M ≤ 80) : ∀ (d F u : Nat) (S : xSt), d ≤ M → d < F → u < 2 ^ 64 → S 7 0 6 = nI p →
    ∃ S', f7_put_L85 F S (nI M) (lN u) (nI d - 1) = some (S', some (.int (nI (p + M)))) ∧ S' 7 0 6 = nI (p + M) ∧ (∀ i, S' 37 0 i = if p ≤ i ∧ i < p + d then nI (u / 256 ^ (p + d - 1 - i) % 256) else S 37 0 i) ∧ (∀ t, ¬ t = 7 → ¬ t = 37 → S' t = S t) ∧ ∀ i, ¬ i = 6 → S' 7 0 i = S 7 0 i
  | d, 0, _, _, _, h, _, _ => absurd h (Nat.not_lt_zero _)
  | 0, F + 1, u, S, _, _, hu, h6 => by
    refine ⟨xup S 7 0 6 (nI (p + M)), ?_, by rw [xup_s, if_pos rfl], fun i => by rw [xup_o (by decide), if_neg (by omega)], fun t a b => xup_o a, fun i hi => by rw [xup_s, if_neg hi]⟩
    show b7_put_L85 (f7_put_L85 F) S (nI M) (lN u) (nI 0 - 1) = _
    unfold b7_put_L85 f7_put_J122
    rw [if_pos m1_lt, h6, nI_add, xlet_eq, xup_s, if_pos rfl]
  | d + 1, F + 1, u, S, hd, hF, hu, h6 => by
    obtain ⟨S', e1, g1, g2, g3, g4⟩ := app7 hp d F (u / 256) (xup S 37 0 (p + d) (nI (u % 256))) (by omega) (by omega) (Nat.lt_of_le_of_lt (Nat.div_le_self _ _) hu) (by rw [xup_o (by decide)]; exact h6)
    refine ⟨S', ?_, g1, fun i => ?_, fun t a b => by rw [g3 t a b, xup_o b], fun i hi => by rw [g4 i hi, xup_o (by decide)]⟩
    · show b7_put_L85 (f7_put_L85 F) S (nI M) (lN u) (nI (d + 1) - 1) = _
      unfold b7_put_L85
      rw [nI_pred, if_neg (nI_pos (by omega)), h6, nI_add, xat_ok (by omega) (by decide), lo8 hu, lN_i, xlet_eq, sh8 hu, sub1]
      exact e1
    · rw [g2, xup_s]
      by_cases c : p ≤ i ∧ i < p + d
      · rw [if_pos c, if_pos (by omega), show p + (d + 1) - 1 - i = (p + d - 1 - i) + 1 by omega, Nat.pow_succ, Nat.mul_comm, Nat.div_div_eq_div_mul]
      · rw [if_neg c]
        by_cases c2 : i = p + d
        · rw [if_pos c2, if_pos (by omega), show p + (d + 1) - 1 - i = 0 by omega, Nat.pow_zero, Nat.div_one]
        · rw [if_neg c2, if_neg (by omega)]
def qT (T : wS) (M u : Nat) : wS := fun f i => if f = 1 ∧ i = 1 then T 1 1 + M else if f = 10 ∧ T 1 1 ≤ i ∧ i < T 1 1 + M then u / 256 ^ (T 1 1 + M - 1 - i) % 256 else T f i
theorem qT_11 (T : wS) (M u : Nat) : qT T M u 1 1 = T 1 1 + M := rfl
theorem qT_1 (T : wS) (M u : Nat) {i : Nat} (h : ¬ i = 1) : qT T M u 1 i = T 1 i := by
  show (if 1 = 1 ∧ i = 1 then T 1 1 + M else if 1 = 10 ∧ T 1 1 ≤ i ∧ i < T 1 1 + M then u / 256 ^ (T 1 1 + M - 1 - i) % 256 else T 1 i) = _
  rw [if_neg (fun q => h q.2), if_neg (fun q => absurd q.1 (by decide))]
theorem qT_o (T : wS) (M u : Nat) {f : Nat} (h : ¬ f = 1) (h10 : ¬ f = 10) : qT T M u f = T f := by
  funext i
  show (if f = 1 ∧ i = 1 then T 1 1 + M else if f = 10 ∧ T 1 1 ≤ i ∧ i < T 1 1 + M then u / 256 ^ (T 1 1 + M - 1 - i) % 256 else T f i) = _
  rw [if_neg (fun q => h q.1), if_neg (fun q => h10 q.1)]
theorem qT_10 (T : wS) (M u i : Nat) : qT T M u 10 i = if T 1 1 ≤ i ∧ i < T 1 1 + M then u / 256 ^ (T 1 1 + M - 1 - i) % 256 else T 10 i := by
  show (if 10 = 1 ∧ i = 1 then T 1 1 + M else if 10 = 10 ∧ T 1 1 ≤ i ∧ i < T 1 1 + M then u / 256 ^ (T 1 1 + M - 1 - i) % 256 else T 10 i) = _
  rw [if_neg (fun q => absurd q.1 (by decide))]
  by_cases c : T 1 1 ≤ i ∧ i < T 1 1 + M
  · rw [if_pos ⟨rfl, c⟩, if_pos c]
  · rw [if_neg (fun q => c q.2), if_neg c]
theorem qT_12 (T : wS) (M u i : Nat) : qT T M u 1 (2 + i) = T 1 (2 + i) := qT_1 T M u (by omega)
theorem qT_8 (T : wS) {M u i : Nat} (h : i < 2) : qT T M u (8 + i) = T (8 + i) := qT_o T M u (by omega) (by omega)
theorem qT_2 (T : wS) {M u j : Nat} (h : j < 6) : qT T M u (2 + j) = T (2 + j) := qT_o T M u (by omega) (by omega)
theorem qT_AI {T : wS} (hA : AI T) {M u : Nat} (hp : T 1 1 + M ≤ 80) (hc : ∀ i, i < M → 33 ≤ u / 256 ^ i % 256 ∧ u / 256 ^ i % 256 ≤ 126) : AI (qT T M u) := by
  obtain ⟨a1, a2, a3, a4, a5, a6⟩ := hA
  unfold AI
  rw [qT_o T M u (f := 0) (by decide) (by decide), qT_1 T M u (i := 0) (by decide), qT_11]
  refine ⟨a1, a2, fun j hj => by rw [qT_2 T (by omega)]; exact a3 j hj, fun i hi => by rw [qT_12, qT_8 T hi]; exact a4 i hi, hp, fun j hj => ?_⟩
  rw [qT_10]
  by_cases c : T 1 1 ≤ j ∧ j < T 1 1 + M
  · rw [if_pos c]; exact hc _ (by omega)
  · rw [if_neg c]; exact a6 j (by omega)
theorem put_ok {T : wS} (hA : AI T) (x : Int64) : OKc (fun S => f6_put S x) (fun S => f7_put S x) T := by
  obtain ⟨u, hu, rfl⟩ := wb_of x
  have h80 := hA.2.2.2.2.1
  have hh := hA.2.1
  have e6 : ∀ S, f2_charactersIn S (lN u) = some (S, some (.int (nI (cc 8 0 u)))) := by
    intro S
    have := chars6 S 8 xFU 0 u rfl (by show 8 < 1000000; omega) hu
    rw [nI_0] at this
    exact this
  have e7 : ∀ S, MI S T → f7_put S (lN u) = if cc 8 0 u = 0 then some (S, some (.int (-2))) else if T 1 1 + cc 8 0 u ≤ 80 then f7_put_L85 xFU S (nI (cc 8 0 u)) (lN u) (nI (cc 8 0 u) - 1) else some (S, some (.int (-4))) := by
    intro S hM
    have := chars7 S (lN u) hM.2.2.2.2.1 h80 8 xFU 0 u rfl (by show 8 < 1000000; omega) hu
    rw [nI_0] at this
    exact this
  by_cases c : cc 8 0 u = 0
  · refine ⟨-2, T, hA, fun S hC => ⟨S, ?_, hC, Cfr.rf⟩, fun S hM => ⟨S, ?_, hM, Mfr.rf⟩⟩
    · show f6_put S (lN u) = _
      have q : nI (cc 8 0 u) = 0 := by rw [c]; rfl
      unfold f6_put
      rw [e6 S, xbI_eq, if_pos q]
    · show f7_put S (lN u) = _
      rw [e7 S hM, if_pos c]
  · obtain ⟨g1, g2, g3⟩ := cc_ok 8 0 u c
    have q : ¬ nI (cc 8 0 u) = 0 := nI_ne0 (by omega) (by omega)
    by_cases c2 : T 1 1 + cc 8 0 u ≤ 80
    · have q2 : nI (T 1 1 + cc 8 0 u) ≤ 80 := nI_le (b := 80) c2 (by decide)
      have hAq := qT_AI hA (M := cc 8 0 u) (u := u) c2 (fun i hi => g3 i (by omega))
      refine ⟨nI (T 1 1 + cc 8 0 u), qT T (cc 8 0 u) u, hAq, fun S hC => ?_, fun S hM => ?_⟩
      · have hD := hC.2.2.2.2.2.2.2.2
        obtain ⟨c1, c2', ⟨l, c3, c4, c5⟩, c6, c7, c8, c9, c10⟩ := CI_CJ hC
        obtain ⟨S', e1, k1, k2, k3⟩ := app6 hu (cc 8 0 u) xFU (T 1 1) S (by omega) (by show cc 8 0 u < 1000000; omega) c7 c2
        have hg : ∀ o b, CV S o b → CV S' o b := fun o b hc => CV_fr hc (by rw [k3 4 (by decide) (by decide)]) (by rw [k3 22 (by decide) (by decide)]) (by rw [k3 23 (by decide) (by decide)]) (by rw [k3 24 (by decide) (by decide)])
        have hb : ∀ o, BS S o → BS S' o := fun o hc => BS_fr hc (by rw [k3 10 (by decide) (by decide)]) (by rw [k3 11 (by decide) (by decide)]) (by rw [k3 12 (by decide) (by decide)])
        refine ⟨S', ?_, CJ_CI ?_ ?_, fun t ht => k3 t (by omega) (by omega)⟩
        · show f6_put S (lN u) = _
          unfold f6_put
          rw [e6 S, xbI_eq, if_neg q, c7, nI_add, if_pos q2]
          unfold f2_append
          rw [e1, xbV_eq, k1]
        · unfold CJ
          rw [qT_o T (cc 8 0 u) u (f := 0) (by decide) (by decide), qT_1 T (cc 8 0 u) u (i := 0) (by decide), qT_11, k3 1 (by decide) (by decide), k3 31 (by decide) (by decide)]
          refine ⟨hg _ _ c1, c2', ⟨l, c3, c4, fun j hj => by rw [qT_2 T (by omega)]; exact hg _ _ (c5 j hj)⟩, fun i hi => by rw [qT_12, qT_8 T hi]; exact ⟨(c6 i hi).1, fun q => hg _ _ ((c6 i hi).2 q)⟩, k1, fun j hj => ?_, hb 0 c9, hb 1 c10⟩
          rw [k2, qT_10]
          by_cases cj : T 1 1 ≤ j ∧ j < T 1 1 + cc 8 0 u
          · rw [if_pos cj, if_pos cj]
          · rw [if_neg cj, if_neg cj]; exact c8 j (by omega)
        · rw [qT_o T (cc 8 0 u) u (f := 0) (by decide) (by decide)]
          exact DV_fr hD (fun t ht => by rw [k3 t (fun q => by rw [q] at ht; exact absurd ht (by decide)) (fun q => by rw [q] at ht; exact absurd ht (by decide))])
      · obtain ⟨m1, m2, m3, m4, m5, m6⟩ := id hM
        obtain ⟨S', e1, k1, k2, k3, k4⟩ := app7 (M := cc 8 0 u) c2 (cc 8 0 u) xFU u S (Nat.le_refl _) (by show cc 8 0 u < 1000000; omega) hu m5
        refine ⟨S', ?_, ?_, fun t h7 h32 => k3 t h7 (by omega)⟩
        · show f7_put S (lN u) = _
          rw [e7 S hM, if_neg c, if_pos c2, e1]
        · unfold MI
          rw [qT_o T (cc 8 0 u) u (f := 0) (by decide) (by decide), qT_1 T (cc 8 0 u) u (i := 0) (by decide), qT_11, k4 2 (by decide), k3 36 (by decide) (by decide)]
          unfold MV at *
          rw [k3 33 (by decide) (by decide), k3 34 (by decide) (by decide), k3 35 (by decide) (by decide)]
          refine ⟨m1, m2, fun j hj => by rw [qT_2 T (by omega)]; exact m3 j hj, fun i hi => by rw [qT_12, qT_8 T hi]; exact m4 i hi, k1, fun j hj => ?_⟩
          rw [k2, qT_10]
          by_cases cj : T 1 1 ≤ j ∧ j < T 1 1 + cc 8 0 u
          · rw [if_pos cj, if_pos cj]
          · rw [if_neg cj, if_neg cj]; exact m6 j (by omega)
    · have q2 : ¬ nI (T 1 1 + cc 8 0 u) ≤ 80 := nI_ge (a := 80) (b := T 1 1 + cc 8 0 u) (by omega) (by omega)
      refine ⟨-4, T, hA, fun S hC => ⟨S, ?_, hC, Cfr.rf⟩, fun S hM => ⟨S, ?_, hM, Mfr.rf⟩⟩
      · show f6_put S (lN u) = _
        unfold f6_put
        rw [e6 S, xbI_eq, if_neg q, hC.2.2.2.2.1, nI_add, if_neg q2]
      · show f7_put S (lN u) = _
        rw [e7 S hM, if_neg c, if_neg c2]
