/-! add -/
/-- q signs sp more, nothing is turned -/
def apn (a : Nat → Nat) (q : Nat) (sp : Nat → Nat) : Nat → Nat := fun i => if 250 ≤ i then 0 else if i = 3 then a 3 + q else if 10 + a 3 ≤ i ∧ i < 10 + a 3 + q then sp (i - (10 + a 3)) else a i
theorem apn_z {a sp : Nat → Nat} {q i : Nat} (h : 250 ≤ i) : apn a q sp i = 0 := if_pos h
theorem apn_3 (a : Nat → Nat) (q : Nat) (sp : Nat → Nat) : apn a q sp 3 = a 3 + q := rfl
theorem apn_s {a sp : Nat → Nat} {q j : Nat} (h : j < q) (h2 : a 3 + q ≤ 240) : apn a q sp (10 + a 3 + j) = sp j := by
  show (if 250 ≤ 10 + a 3 + j then 0 else if 10 + a 3 + j = 3 then a 3 + q else if 10 + a 3 ≤ 10 + a 3 + j ∧ 10 + a 3 + j < 10 + a 3 + q then sp (10 + a 3 + j - (10 + a 3)) else a (10 + a 3 + j)) = sp j
  rw [if_neg (by omega), if_neg (by omega), if_pos (by omega), show 10 + a 3 + j - (10 + a 3) = j by omega]
theorem apn_o {a sp : Nat → Nat} {q i : Nat} (h : i < 250) (h3 : ¬ i = 3) (h2 : ¬ (10 + a 3 ≤ i ∧ i < 10 + a 3 + q)) : apn a q sp i = a i := by
  show (if 250 ≤ i then 0 else if i = 3 then a 3 + q else if 10 + a 3 ≤ i ∧ i < 10 + a 3 + q then sp (i - (10 + a 3)) else a i) = a i
  rw [if_neg (by omega), if_neg h3, if_neg h2]
theorem apn_AV {a sp : Nat → Nat} {q : Nat} (hA : AV a) (h : a 3 + q ≤ 240) (hs : ∀ j, j < q → sp j < 8) : AV (apn a q sp) := by
  obtain ⟨a1, a2, a3, a4, a5, a6, a7⟩ := hA
  unfold AV
  rw [apn_3, apn_o (i := 0) (by decide) (by decide) (by omega), apn_o (i := 1) (by decide) (by decide) (by omega), apn_o (i := 2) (by decide) (by decide) (by omega)]
  refine ⟨a1, a2, a3, h, fun j hj => ?_, fun k hk => by rw [apn_z (by omega)]; decide, fun k _ _ => apn_z (by omega)⟩
  by_cases c : j < a 3
  · rw [apn_o (by omega) (by omega) (by omega)]; exact a5 j c
  · obtain ⟨i, hi⟩ : ∃ i, 10 + j = 10 + a 3 + i := ⟨j - a 3, by omega⟩
    rw [hi, apn_s (by omega) h]
    exact hs i (by omega)
/-- what both hold when the signs stand -/
theorem apn6 {S S1 : xSt} {T : wS} {sp : Nat → Nat} {q : Nat} (hA : AV (T 0)) (h : T 0 3 + q ≤ 240) (hs : ∀ j, j < q → sp j < 8) (g1 : CJ S1 T) (hF : ∀ t o, ¬ (o = 0 ∧ (t = 4 ∨ t = 23)) → S t o = S1 t o) (h4 : S 4 0 3 = nI (T 0 3 + q)) (h23 : ∀ j, S 23 0 j = if T 0 3 ≤ j ∧ j < T 0 3 + q then nI (sp (j - T 0 3)) else S1 23 0 j) :
    ∃ S4 S5, f4_mendCodes S 0 = some (S4, none) ∧ f6_refresh S4 = some (S5, none) ∧ CI S5 (wq T (apn (T 0) q sp)) ∧ Cfr S S5 := by
  have hv1 := g1.1
  refine fin6 (S1 := S1) (T := T) (a := apn (T 0) q sp) (apn_AV hA h hs) g1 (fun t o ht => hF t o (by omega)) (fun i hi => ?_) (by rw [apn_3]; exact h4) (fun j hj => ?_) (fun k hk => apn_z (by omega))
  · rw [hF 22 0 (by omega), apn_o (by omega) (by omega) (by omega)]; exact hv1.1 i hi
  · rw [apn_3] at hj
    rw [h23]
    by_cases c : T 0 3 ≤ j
    · obtain ⟨i, hi⟩ : ∃ i, j = T 0 3 + i := ⟨j - T 0 3, by omega⟩
      subst hi
      rw [if_pos (by omega), show 10 + (T 0 3 + i) = 10 + T 0 3 + i by omega, apn_s (by omega) h, show T 0 3 + i - T 0 3 = i by omega]
    · rw [if_neg (by omega), apn_o (by omega) (by omega) (by omega)]; exact hv1.2.2.1 j (by omega)
theorem apn7 {S S1 : xSt} {T : wS} {sp : Nat → Nat} {q : Nat} (hA : AV (T 0)) (h : T 0 3 + q ≤ 240) (g1 : MI S1 T) (hF : ∀ t, ¬ t = 33 → S t = S1 t) (h3 : S 33 0 3 = nI (T 0 3 + q)) (hv : ∀ i, ¬ i = 3 → S 33 0 i = if 10 + T 0 3 ≤ i ∧ i < 10 + T 0 3 + q then nI (sp (i - (10 + T 0 3))) else S1 33 0 i) :
    ∃ S', f7_mend S = some (S', none) ∧ MI S' (wq T (apn (T 0) q sp)) ∧ Mfr S S' ∧ S' 33 0 3 = nI (T 0 3 + q) := by
  have hv1 := g1.1
  refine fin7 (S1 := S1) (T := T) (a := apn (T 0) q sp) g1 (by rw [hF 7 (by decide)]) (by rw [hF 7 (by decide)]) (fun t t1 t2 => by rw [hF t (by omega)]) h (fun i hi => ?_) (fun i h1 h2 => apn_z h1)
  rw [apn_3] at hi
  by_cases c3 : i = 3
  · rw [c3, apn_3]; exact h3
  · rw [hv i c3]
    by_cases c : 10 + T 0 3 ≤ i
    · obtain ⟨j, hj⟩ : ∃ j, i = 10 + T 0 3 + j := ⟨i - (10 + T 0 3), by omega⟩
      subst hj
      rw [if_pos (by omega), apn_s (by omega) h, show 10 + T 0 3 + j - (10 + T 0 3) = j by omega]
    · rw [if_neg (by omega), apn_o (by omega) c3 (by omega)]; exact MV0 hv1 (by omega) (by omega)
theorem add_loop {n q : Nat} {v : Int32} (h : n + q ≤ 240) : ∀ (d F i : Nat) (S : xSt), i + d = q → d < F → S 33 0 3 = nI n → f7_add_L47 F S v (nI q) (nI i) = f7_add_J75 (cpl 33 (10 + n) (fun _ => v) d i S) (nI q)
  | d, 0, _, _, _, h, _ => absurd h (Nat.not_lt_zero _)
  | 0, F + 1, i, S, e, _, h2 => by
    show b7_add_L47 (f7_add_L47 F) S v (nI q) (nI i) = _
    unfold b7_add_L47
    rw [if_pos (nI_le (by omega) (by omega))]
    rfl
  | d + 1, F + 1, i, S, e, hF, h2 => by
    show b7_add_L47 (f7_add_L47 F) S v (nI q) (nI i) = _
    have h10 : (10 : Int32) + nI n = nI (10 + n) := nI_add 10 n
    unfold b7_add_L47
    rw [if_neg (nI_ge (by omega) (by omega)), xat_lit (v := 3) 3 rfl (by decide) (by decide), h2, h10, nI_add, xat_ok (by omega) (by decide), xlet_eq, nI_1]
    exact add_loop h d F (i + 1) _ (by omega) (by omega) (by rw [xup_s, if_neg (by omega)]; exact h2)
theorem le_of_nle {x : Int32} {n : Nat} (hn : n + 1 < 2 ^ 31) (h : ¬ x ≤ nI n) : nI (n + 1) ≤ x := by
  rw [Int32.le_iff_toInt_le, nI_toInt (by omega)] at h
  rw [Int32.le_iff_toInt_le, nI_toInt hn]
  omega
theorem add_ok {T : wS} (hA : AI T) (x y : Int32) : OKc (fun S => f6_add S x y) (fun S => f7_add S x y) T := by
  have hn := hA.1.2.2.2.1
  by_cases c : (0 : Int32) ≤ x ∧ x ≤ 7
  · obtain ⟨s, s1, s2, rfl⟩ := arg_in (a := 0) (b := 7) (by decide) c.1 c.2 (by decide)
    have x0 : ¬ nI s < 0 := Int32.not_lt.mpr c.1
    have x8 : ¬ ((8 : Int32) ≤ nI s) := nI_ge (a := s) (b := 8) (by omega) (by omega)
    by_cases c2 : (1 : Int32) ≤ y ∧ y ≤ 240
    · obtain ⟨q, q1, q2, rfl⟩ := arg_in (a := 1) (b := 240) (by decide) c2.1 c2.2 (by decide)
      have y1 : ¬ nI q < 1 := Int32.not_lt.mpr c2.1
      by_cases cq : T 0 3 + q ≤ 240
      · have hle : nI (T 0 3 + q) ≤ 240 := nI_le (a := T 0 3 + q) (b := 240) cq (by decide)
        have r0 : rT T 0 = T 0 := rT_o (Or.inl rfl)
        have e3 := apn_3 (T 0) q (fun _ => s)
        have hv := apn_AV (sp := fun _ => s) hA.1 cq (fun j hj => by show s < 8; omega)
        have hAr : AV (rT T 0) := by rw [r0]; exact hA.1
        refine ⟨nI (T 0 3 + q), wq (rT T) (apn (T 0) q (fun _ => s)), wq_AI (rT_AI hA) hv, fun S hC => ?_, fun S hM => ?_⟩
        · obtain ⟨S1, e1, g1, g2⟩ := record6 hA (CI_CJ hC)
          have hv1 := g1.1
          have hfill : ffill4 S1 23 0 240 (nI (T 0 3)) (nI (T 0 3 + q)) (nI s) = some (xua S1 23 0 (fun j => if T 0 3 ≤ j ∧ j < T 0 3 + q then nI s else S1 23 0 j), none) := by
            unfold ffill4 xne
            rw [if_pos ⟨nI_le (by omega) (by omega), nI_pos' (by omega), nI_le (by omega) (by decide)⟩, nI_clamp (by omega), nI_clamp (by omega)]
          obtain ⟨S2, hS2⟩ : ∃ S2, S2 = xua S1 23 0 (fun j => if T 0 3 ≤ j ∧ j < T 0 3 + q then nI s else S1 23 0 j) := ⟨_, rfl⟩
          have o4 : S2 4 = S1 4 := by rw [hS2, xua_o (by decide)]
          obtain ⟨S4, S5, e4, e5, k1, k2⟩ := apn6 (S := xup S2 4 0 3 (nI (T 0 3 + q))) (S1 := S1) (T := rT T) (sp := fun _ => s) (q := q) hAr (by rw [r0]; exact cq) (fun j hj => by show s < 8; omega) g1 (fun t o h => by
              rw [hS2]
              simp only [xup, xua]
              rw [if_neg (fun q => h ⟨q.2, by omega⟩), if_neg (fun q => h ⟨q.2, by omega⟩)]) (by rw [xup_s, if_pos rfl, r0]) (fun j => by rw [xup_o (by decide), hS2, xua_s, r0])
          rw [r0] at k1 hv1
          have h5 := k1.1.2.1
          rw [wq_0, e3] at h5
          refine ⟨S5, ?_, k1, g2.tr (Cfr.tr (fun t ht => by rw [hS2, xua_o (by omega)]) ((up_Cfr (by decide)).tr k2))⟩
          show f6_add S (nI s) (nI q) = _
          unfold f6_add
          rw [if_neg x0, if_neg x8, if_neg y1, if_pos c2.2, hC.1.2.1, nI_add, if_pos hle, e1, xbV_eq, hv1.2.1, nI_add, hfill, ← hS2, xbV_eq, o4, hv1.2.1, nI_add, xlet_eq, e4, xbV_eq, e5, xbV_eq, h5]
        · obtain ⟨S1, e1, g1, g2, g3⟩ := record7 hA hM
          have hv1 := g1.1
          have e33 : S1 33 0 3 = nI (T 0 3) := by
            rw [r0] at hv1
            exact MV0 hv1 (by omega) (by omega)
          have l := add_loop (v := nI s) cq q xFU 0 S1 (by omega) (by show q < 1000000; omega) e33
          obtain ⟨S2, hS2⟩ : ∃ S2, S2 = cpl 33 (10 + T 0 3) (fun _ => nI s) q 0 S1 := ⟨_, rfl⟩
          rw [← hS2] at l
          have o2 : ∀ t, ¬ t = 33 → S2 t = S1 t := fun t h => by rw [hS2, cpl_o h]
          have e2 : S2 33 0 3 = nI (T 0 3) := by rw [hS2, cpl_s, if_neg (by omega)]; exact e33
          obtain ⟨S4, e4, k1, k2, k3⟩ := apn7 (S := xup S2 33 0 3 (nI (T 0 3 + q))) (S1 := S1) (T := rT T) (sp := fun _ => s) (q := q) hAr (by rw [r0]; exact cq) g1 (fun t h => by rw [xup_o h, o2 t h]) (by rw [xup_s, if_pos rfl, r0]) (fun i h => by rw [xup_s, if_neg h, hS2, cpl_s, r0, Nat.add_zero])
          rw [r0] at k1 k3
          refine ⟨S4, ?_, k1, Mfr.tr (fun t h7 h32 => (o2 t (by omega)).trans (g2 t (by omega) h7)) ((up_Mfr (by decide)).tr k2)⟩
          show f7_add S (nI s) (nI q) = _
          unfold f7_add
          rw [f7_in_ok, xbI_eq, if_pos c, if_neg (by decide), f7_in_ok, xbI_eq, if_pos c2, if_neg (by decide), xat_lit (v := 3) 3 rfl (by decide) (by decide), MV0 hM.1 (i := 3) (by omega) (by omega), nI_add, if_pos hle, e1, xbV_eq, ← nI_0, l]
          unfold f7_add_J75
          rw [xat_lit (v := 3) 3 rfl (by decide) (by decide), xat_lit (v := 3) 3 rfl (by decide) (by decide), e2, nI_add, xlet_eq, e4, xbV_eq, xat_lit (v := 3) 3 rfl (by decide) (by decide), k3]
      · have hle : ¬ nI (T 0 3 + q) ≤ 240 := nI_ge (a := 240) (b := T 0 3 + q) (by omega) (by omega)
        refine ⟨-4, T, hA, fun S hC => ⟨S, ?_, hC, Cfr.rf⟩, fun S hM => ⟨S, ?_, hM, Mfr.rf⟩⟩
        · show f6_add S (nI s) (nI q) = _
          unfold f6_add
          rw [if_neg x0, if_neg x8, if_neg y1, if_pos c2.2, hC.1.2.1, nI_add, if_neg hle]
        · show f7_add S (nI s) (nI q) = _
          unfold f7_add
          rw [f7_in_ok, xbI_eq, if_pos c, if_neg (by decide), f7_in_ok, xbI_eq, if_pos c2, if_neg (by decide), xat_lit (v := 3) 3 rfl (by decide) (by decide), MV0 hM.1 (i := 3) (by omega) (by omega), nI_add, if_neg hle]
    · refine ⟨-2, T, hA, fun S hC => ⟨S, ?_, hC, Cfr.rf⟩, fun S hM => ⟨S, ?_, hM, Mfr.rf⟩⟩
      · show f6_add S (nI s) y = _
        unfold f6_add
        rw [if_neg x0, if_neg x8]
        by_cases y1 : y < 1
        · rw [if_pos y1]
        · rw [if_neg y1, if_neg (fun q => c2 ⟨Int32.not_lt.mp y1, q⟩)]
      · show f7_add S (nI s) y = _
        unfold f7_add
        rw [f7_in_ok, xbI_eq, if_pos c, if_neg (by decide), f7_in_ok, xbI_eq, if_neg c2, if_pos rfl]
  · refine ⟨-2, T, hA, fun S hC => ⟨S, ?_, hC, Cfr.rf⟩, fun S hM => ⟨S, ?_, hM, Mfr.rf⟩⟩
    · show f6_add S x y = _
      unfold f6_add
      by_cases x0 : x < 0
      · rw [if_pos x0]
      · have x8 : (8 : Int32) ≤ x := le_of_nle (n := 7) (by decide) (fun q => c ⟨Int32.not_lt.mp x0, q⟩)
        rw [if_neg x0, if_pos x8]
    · show f7_add S x y = _
      unfold f7_add
      rw [f7_in_ok, xbI_eq, if_neg c, if_pos rfl]
