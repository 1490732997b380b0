/-! texts: the reference reads and spells at once -/
def FP (S S' : xSt) : Prop := (∀ t, ¬ t = 7 → ¬ (47 ≤ t ∧ t ≤ 49) → S' t = S t) ∧ ∀ i, ¬ i = 20 → S' 7 0 i = S 7 0 i
theorem FP.rf {S : xSt} : FP S S := ⟨fun _ _ _ => rfl, fun _ _ => rfl⟩
theorem FP.tr {S S' S'' : xSt} (h : FP S S') (h2 : FP S' S'') : FP S S'' := ⟨fun t a b => (h2.1 t a b).trans (h.1 t a b), fun i a => (h2.2 i a).trans (h.2 i a)⟩
theorem FP.up {S : xSt} {t i : Nat} {v : Int32} (h : 47 ≤ t ∧ t ≤ 49) : FP S (xup S t 0 i v) := ⟨fun t' a b => xup_o (fun q => b (by omega)), fun i _ => by rw [xup_o (by omega)]⟩
theorem FP.c {S : xSt} {v : Int32} : FP S (xup S 7 0 20 v) := ⟨fun t' a b => xup_o a, fun i h => by rw [xup_s, if_neg h]⟩
/-- only the signs, the count and nothing else -/
def FC (S S' : xSt) : Prop := (∀ t, ¬ t = 7 → ¬ t = 47 → S' t = S t) ∧ ∀ i, ¬ i = 20 → S' 7 0 i = S 7 0 i
theorem FC.rf {S : xSt} : FC S S := ⟨fun _ _ _ => rfl, fun _ _ => rfl⟩
theorem FC.tr {S S' S'' : xSt} (h : FC S S') (h2 : FC S' S'') : FC S S'' := ⟨fun t a b => (h2.1 t a b).trans (h.1 t a b), fun i a => (h2.2 i a).trans (h.2 i a)⟩
theorem FC.FP {S S' : xSt} (h : FC S S') : FP S S' := ⟨fun t a b => h.1 t a (by omega), h.2⟩
theorem FC.two {S : xSt} {i : Nat} {v w : Int32} : FC S (xup (xup S 47 0 i v) 7 0 20 w) := ⟨fun t a b => by rw [xup_o a, xup_o b], fun i h => by rw [xup_s, if_neg h, xup_o (by decide)]⟩
theorem rin7 {blk t : Nat} {k10 : xSt → Int32 → Int32 → Int32 → Option xR} {i4 : Int32} (hb : blk ≤ 241) : ∀ (e F i c : Nat) (S : xSt) (f : Nat → Nat), i + e = blk → e < F → c ≤ 241 → blk ≤ c → S 7 0 20 = nI c → (c ≤ 240 → ∀ j, j < c → S 47 0 j = nI (f j)) →
    ∃ S', f7_repeat_L29 k10 F S (nI t) (nI blk) i4 (nI i) = k10 S' (nI t) (nI blk) (i4 + 1) ∧ S' 7 0 20 = nI (if 240 < c + e then 241 else c + e) ∧ (c + e ≤ 240 → ∀ j, j < c + e → S' 47 0 j = nI (rpt blk e c f j)) ∧ FC S S'
  | e, 0, _, _, _, _, _, h, _, _, _, _ => absurd h (Nat.not_lt_zero _)
  | 0, F + 1, i, c, S, f, he, _, hc, hbc, h20, hf => by
    refine ⟨S, ?_, ?_, fun h => hf h, FC.rf⟩
    · show b7_repeat_L29 k10 (f7_repeat_L29 k10 F) S (nI t) (nI blk) i4 (nI i) = _
      unfold b7_repeat_L29 f7_repeat_J81
      rw [if_pos (nI_le (by omega) (by omega))]
    · rw [h20]
      by_cases q : 240 < c + 0
      · rw [if_pos q, show c = 241 by omega]
      · rw [if_neg q]; rfl
  | e + 1, F + 1, i, c, S, f, he, hF, hc, hbc, h20, hf => by
    by_cases q : 240 < c
    · have e241 : c = 241 := by omega
      refine ⟨S, ?_, by rw [if_pos (by omega), h20, e241], fun h => by omega, FC.rf⟩
      show b7_repeat_L29 k10 (f7_repeat_L29 k10 F) S (nI t) (nI blk) i4 (nI i) = _
      have q2 : (240 : Int32) < nI c := nI_lt (a := 240) q (by omega)
      unfold b7_repeat_L29 f7_repeat_J81
      rw [if_neg (nI_ge (by omega) (by omega)), h20, if_pos q2]
    · have hf' := hf (by omega)
      have q2 : ¬ ((240 : Int32) < nI c) := nI_nlt (a := 240) (b := c) (by omega) (by decide)
      obtain ⟨S', e1, g1, g2, g3⟩ := rin7 (k10 := k10) (i4 := i4) (t := t) hb e F (i + 1) (c + 1) (xup (xup S 47 0 c (nI (f (c - blk)))) 7 0 20 (nI (c + 1))) (fun j => if j = c then f (c - blk) else f j) (by omega) (by omega) (by omega) (by omega) (by rw [xup_s, if_pos rfl]) (fun _ j hj => by
        rw [xup_o (by decide), xup_s]
        show _ = nI (if j = c then f (c - blk) else f j)
        by_cases cj : j = c
        · rw [if_pos cj, if_pos cj]
        · rw [if_neg cj, if_neg cj]; exact hf' j (by omega))
      refine ⟨S', ?_, ?_, fun h j hj => ?_, FC.two.tr g3⟩
      · show b7_repeat_L29 k10 (f7_repeat_L29 k10 F) S (nI t) (nI blk) i4 (nI i) = _
        unfold b7_repeat_L29
        rw [if_neg (nI_ge (by omega) (by omega)), h20, if_neg q2, pk_sub hbc, xat_ok (by omega) (by decide), xat_ok (by omega) (by decide), hf' (c - blk) (by omega), xlet_eq, xup_o (by decide), h20, xlet_eq, nI_1, nI_1]
        exact e1
      · rw [g1, show c + 1 + e = c + (e + 1) by omega]
      · rw [rpt]; exact g2 (by omega) j (by omega)
theorem rout7 {blk t : Nat} (hb : blk ≤ 241) (ht : t ≤ 60) : ∀ (r F i c : Nat) (S : xSt) (f : Nat → Nat), i + r = t → r < F → c ≤ 241 → blk ≤ c → S 7 0 20 = nI c → (c ≤ 240 → ∀ j, j < c → S 47 0 j = nI (f j)) →
    ∃ S', f7_repeat_L10 F S (nI t) (nI blk) (nI i) = some (S', none) ∧ S' 7 0 20 = nI (if 240 < c + blk * r then 241 else c + blk * r) ∧ (c + blk * r ≤ 240 → ∀ j, j < c + blk * r → S' 47 0 j = nI (rpt blk (blk * r) c f j)) ∧ FC S S'
  | r, 0, _, _, _, _, _, h, _, _, _, _ => absurd h (Nat.not_lt_zero _)
  | 0, F + 1, i, c, S, f, he, _, hc, hbc, h20, hf => by
    refine ⟨S, ?_, ?_, fun h => hf h, FC.rf⟩
    · show b7_repeat_L10 (f7_repeat_L10 F) S (nI t) (nI blk) (nI i) = _
      unfold b7_repeat_L10
      rw [if_pos (nI_le (by omega) (by omega))]
    · rw [h20, Nat.mul_zero]
      by_cases q : 240 < c + 0
      · rw [if_pos q, show c = 241 by omega]
      · rw [if_neg q]; rfl
  | r + 1, F + 1, i, c, S, f, he, hF, hc, hbc, h20, hf => by
    by_cases q : 240 < c
    · have e241 : c = 241 := by omega
      refine ⟨S, ?_, by rw [if_pos (by omega), h20, e241], fun h => by omega, FC.rf⟩
      show b7_repeat_L10 (f7_repeat_L10 F) S (nI t) (nI blk) (nI i) = _
      have q2 : (240 : Int32) < nI c := nI_lt (a := 240) q (by omega)
      unfold b7_repeat_L10
      rw [if_neg (nI_ge (by omega) (by omega)), h20, if_pos q2]
    · have q2 : ¬ ((240 : Int32) < nI c) := nI_nlt (a := 240) (b := c) (by omega) (by decide)
      obtain ⟨S1, e1, g1, g2, g3⟩ := rin7 (k10 := f7_repeat_L10 F) (i4 := nI i) (t := t) hb blk xFU 0 c S f (by omega) (by show blk < 1000000; omega) hc hbc h20 hf
      obtain ⟨S2, e2, k1, k2, k3⟩ := rout7 hb ht r F (i + 1) (if 240 < c + blk then 241 else c + blk) S1 (rpt blk blk c f) (by omega) (by omega) (by
        by_cases z : 240 < c + blk
        · rw [if_pos z]; omega
        · rw [if_neg z]; omega) (by
        by_cases z : 240 < c + blk
        · rw [if_pos z]; omega
        · rw [if_neg z]; omega) g1 (fun h j hj => by
        by_cases z : 240 < c + blk
        · rw [if_pos z] at h; omega
        · rw [if_neg z] at hj; exact g2 (by omega) j hj)
      refine ⟨S2, ?_, ?_, fun h j hj => ?_, g3.tr k3⟩
      · show b7_repeat_L10 (f7_repeat_L10 F) S (nI t) (nI blk) (nI i) = _
        unfold b7_repeat_L10
        rw [if_neg (nI_ge (by omega) (by omega)), h20, if_neg q2, ← nI_0, e1, nI_1]
        exact e2
      · rw [k1, Nat.mul_succ]
        by_cases z : 240 < c + blk
        · rw [if_pos z, if_pos (show 240 < 241 + blk * r by omega), if_pos (show 240 < c + (blk * r + blk) by omega)]
        · rw [if_neg z, show c + blk + blk * r = c + (blk * r + blk) by omega]
      · rw [Nat.mul_succ] at h hj ⊢
        have z : ¬ 240 < c + blk := by omega
        rw [if_neg z] at k2
        rw [show blk * r + blk = blk + blk * r by omega, rpt_add]
        exact k2 (by omega) j (by omega)
theorem rep7 {S : xSt} {M b t : Nat} {f : Nat → Nat} (hM : M ≤ 241) (hb : b ≤ M) (h1 : 1 ≤ t) (ht : t ≤ 60) (h20 : S 7 0 20 = nI M) (hf : M ≤ 240 → ∀ j, j < M → S 47 0 j = nI (f j)) :
    ∃ S', f7_repeat S (nI b) (nI t) = some (S', none) ∧ S' 7 0 20 = nI (if 240 < M + (M - b) * (t - 1) then 241 else M + (M - b) * (t - 1)) ∧ (M + (M - b) * (t - 1) ≤ 240 → ∀ j, j < M + (M - b) * (t - 1) → S' 47 0 j = nI (rpt (M - b) ((M - b) * (t - 1)) M f j)) ∧ FC S S' := by
  obtain ⟨S', e, g⟩ := rout7 (blk := M - b) (t := t) (by omega) ht (t - 1) xFU 1 M S f (by omega) (by show t - 1 < 1000000; omega) hM (by omega) h20 hf
  refine ⟨S', ?_, g⟩
  unfold f7_repeat
  rw [h20, pk_sub hb]
  exact e
def RZ (S : xSt) (z : wS) (D : Nat) : Prop := S 7 0 20 = nI (z 0 0) ∧ (z 0 0 ≤ 240 → ∀ j, j < z 0 0 → S 47 0 j = nI (z 1 j)) ∧ ∀ i, i < D → S 48 0 i = nI (z 2 i) ∧ S 49 0 i = nI (z 3 i)
theorem cls7 {S : xSt} {z : wS} {D : Nat} (hz : ZI z (D + 1)) (hR : RZ S z (D + 1)) : ∃ S', f7_repeat S (nI (z 2 D)) (nI (z 3 D)) = some (S', none) ∧ RZ S' (zcl z D) D ∧ FP S S' := by
  obtain ⟨h1, h2, h3⟩ := hz
  obtain ⟨b1, b2, b3⟩ := h2 D (by omega)
  obtain ⟨S', e, g1, g2, g3⟩ := rep7 (f := z 1) h1 b1 b2 b3 hR.1 hR.2.1
  refine ⟨S', e, ⟨by rw [zcl_0]; exact g1, fun h j hj => ?_, fun i hi => ?_⟩, g3.FP⟩
  · rw [zcl_0] at h hj
    by_cases c : 240 < z 0 0 + (z 0 0 - z 2 D) * (z 3 D - 1)
    · rw [if_pos c] at h; omega
    · rw [if_neg c] at hj
      rw [zcl_1 (by omega)]
      exact g2 (by omega) j hj
  · rw [zcl_o z D (show 2 ≤ 2 by decide), zcl_o z D (show 2 ≤ 3 by decide), g3.1 48 (by decide) (by decide), g3.1 49 (by decide) (by decide)]
    exact hR.2.2 i (by omega)
theorem sgn7 {S : xSt} {z : wS} {D s t : Nat} (hz : ZI z D) (hR : RZ S z D) (hM : z 0 0 ≤ 240) (h1 : 1 ≤ t) (ht : t ≤ 60) : ∃ S', f7_repeat (xup (xup S 47 0 (z 0 0) (nI s)) 7 0 20 (nI (z 0 0 + 1))) (nI (z 0 0)) (nI t) = some (S', none) ∧ RZ S' (zsg z s t) D ∧ FP S S' := by
  obtain ⟨S', e, g1, g2, g3⟩ := rep7 (S := xup (xup S 47 0 (z 0 0) (nI s)) 7 0 20 (nI (z 0 0 + 1))) (M := z 0 0 + 1) (b := z 0 0) (t := t) (f := fun j => if j = z 0 0 then s else z 1 j) (by omega) (by omega) h1 ht (by rw [xup_s, if_pos rfl]) (fun h j hj => by
    rw [xup_o (by decide), xup_s]
    show _ = nI (if j = z 0 0 then s else z 1 j)
    by_cases cj : j = z 0 0
    · rw [if_pos cj, if_pos cj]
    · rw [if_neg cj, if_neg cj]; exact hR.2.1 hM j (by omega))
  have hq : z 0 0 + 1 + (z 0 0 + 1 - z 0 0) * (t - 1) = z 0 0 + t := by
    rw [show z 0 0 + 1 - z 0 0 = 1 by omega, Nat.one_mul]; omega
  rw [hq] at g1 g2
  refine ⟨S', e, ⟨by rw [zsg_0]; exact g1, fun h j hj => ?_, fun i hi => ?_⟩, (FC.two.tr g3).FP⟩
  · rw [zsg_0] at h hj
    by_cases c : 240 < z 0 0 + t
    · rw [if_pos c] at h; omega
    · rw [if_neg c] at hj
      rw [zsg_1 (by omega), g2 (by omega) j hj, show z 0 0 + 1 - z 0 0 = 1 by omega, Nat.one_mul, rpt_1 _ _ _ _ (by omega)]
      show nI (if z 0 0 + 1 ≤ j ∧ j < z 0 0 + 1 + (t - 1) then (if z 0 0 + 1 - 1 = z 0 0 then s else z 1 (z 0 0 + 1 - 1)) else (if j = z 0 0 then s else z 1 j)) = _
      rw [if_pos (show z 0 0 + 1 - 1 = z 0 0 by omega)]
      by_cases c1 : z 0 0 + 1 ≤ j ∧ j < z 0 0 + 1 + (t - 1)
      · rw [if_pos c1, if_pos (by omega)]
      · rw [if_neg c1]
        by_cases c2 : j = z 0 0
        · rw [if_pos c2, if_pos (by omega)]
        · rw [if_neg c2, if_neg (by omega)]
  · have hf := FC.two.tr g3
    rw [zsg_o z s t (show 2 ≤ 2 by decide), zsg_o z s t (show 2 ≤ 3 by decide), hf.1 48 (by decide) (by decide), hf.1 49 (by decide) (by decide)]
    exact hR.2.2 i hi
theorem sgn7f {S : xSt} {z : wS} {D s t : Nat} (hz : ZI z D) (hR : RZ S z D) (hM : z 0 0 = 241) (h1 : 1 ≤ t) (ht : t ≤ 60) : ∃ S', f7_repeat S (nI (z 0 0)) (nI t) = some (S', none) ∧ RZ S' (zsg z s t) D ∧ FP S S' := by
  obtain ⟨S', e, g1, g2, g3⟩ := rep7 (S := S) (M := z 0 0) (b := z 0 0) (t := t) (f := z 1) (by omega) (by omega) h1 ht hR.1 hR.2.1
  refine ⟨S', e, ⟨?_, fun h j hj => ?_, fun i hi => ?_⟩, g3.FP⟩
  · rw [zsg_0, if_pos (by omega), g1, if_pos (by omega)]
  · rw [zsg_0, if_pos (by omega)] at h; omega
  · rw [zsg_o z s t (show 2 ≤ 2 by decide), zsg_o z s t (show 2 ≤ 3 by decide), g3.1 48 (by decide) (by decide), g3.1 49 (by decide) (by decide)]
    exact hR.2.2 i hi
theorem mx7 {N : Nat} (h : N ≤ 60) (A : Int32 → Option xR) : (if nI N ≤ 1 then A 1 else A (nI N)) = A (nI (max N 1)) := by
  by_cases c : N ≤ 1
  · have q : nI N ≤ 1 := nI_le (b := 1) c (by decide)
    rw [if_pos q, show max N 1 = 1 by omega]; rfl
  · have q : ¬ nI N ≤ 1 := nI_ge (a := 1) (b := N) (by omega) (by omega)
    rw [if_neg q, show max N 1 = N by omega]
def nd (N P : Nat) : Int32 := if N = 0 ∧ ¬ P = 0 then 0 else 1
theorem pad7 {ch : Nat → Nat} {p : Nat} (hch : CH ch p) : ∀ (d F k D N P : Nat) (z : wS) (S : xSt), k + d = p → d < F → D ≤ 3 → N ≤ 60 → P ≤ 1 → S 7 0 6 = nI p → (∀ j, j < p → S 37 0 j = nI (ch j)) → ZI z D → RZ S z D →
    ∃ S', f7_readPad_L14 F S (nI D) (nI N) (nd N P) (nI k) = some (S', some (.int (pf ch p d k D N P))) ∧ (pf ch p d k D N P = -6 → S' 7 0 20 = nI (psp ch d k D N z 0 0) ∧ (psp ch d k D N z 0 0 ≤ 240 → ∀ j, j < psp ch d k D N z 0 0 → S' 47 0 j = nI (psp ch d k D N z 1 j))) ∧ FP S S'
  | d, 0, _, _, _, _, _, _, _, h, _, _, _, _, _, _, _ => absurd h (Nat.not_lt_zero _)
  | 0, F + 1, k, D, N, P, z, S, e, _, hD, hN, hP, hp, hs, hz, hR => by
    have hp80 := hch.1
    refine ⟨S, ?_, fun _ => ⟨hR.1, hR.2.1⟩, FP.rf⟩
    show b7_readPad_L14 (f7_readPad_L14 F) S (nI D) (nI N) (nd N P) (nI k) = _
    unfold b7_readPad_L14 f7_readPad_J266 f7_readPad_J274 nd
    rw [hp, if_pos (nI_le (by omega) (by omega)), pf]
    by_cases c1 : N = 0 ∧ ¬ P = 0
    · rw [if_pos c1, if_pos rfl]
      by_cases c2 : D = 0
      · have q2 : nI D ≤ 0 := by rw [c2]; decide
        rw [if_pos q2, if_pos ⟨c1.1, c2, c1.2⟩]
      · have q2 : ¬ nI D ≤ 0 := nI_nle (by omega) (by omega)
        rw [if_neg q2, if_neg (fun q => c2 q.2.1)]
    · rw [if_neg c1, if_neg (by decide), if_neg (fun q => c1 ⟨q.1, q.2.2⟩)]
  | d + 1, F + 1, k, D, N, P, z, S, e, hF, hD, hN, hP, hp, hs, hz, hR => by
    have hp80 := hch.1
    obtain ⟨l1, l2⟩ := hch.2 k (by omega)
    have hz241 := hz.1
    -- the flag that a piece may begin
    obtain ⟨k0, hk0, hk1⟩ : ∃ k0 : Int32, (k0 = 0 ↔ N = 1) ∧ b7_readPad_L14 (f7_readPad_L14 F) S (nI D) (nI N) (nd N P) (nI k) = f7_readPad_J54 (f7_readPad_L14 F) S (nI D) (nI N) (nd N P) (nI k) (nI (ch k)) k0 (nI (max N 1)) := by
      unfold b7_readPad_L14 f7_readPad_J42
      rw [hp, if_neg (nI_ge (by omega) (by omega)), xat_ok (by omega) (by decide), hs k (by omega)]
      by_cases c : N = 1
      · have q : nI N = 1 := by rw [c]; rfl
        refine ⟨0, by simp [c], ?_⟩
        rw [if_pos q, mx7 hN (fun v => f7_readPad_J54 (f7_readPad_L14 F) S (nI D) (nI N) (nd N P) (nI k) (nI (ch k)) 0 v)]
      · have q : ¬ nI N = 1 := fun q => c (nI_inj (b := 1) (by omega) (by decide) q)
        refine ⟨1, ⟨fun q => absurd q (by decide), fun q => absurd q c⟩, ?_⟩
        rw [if_neg q, mx7 hN (fun v => f7_readPad_J54 (f7_readPad_L14 F) S (nI D) (nI N) (nd N P) (nI k) (nI (ch k)) 1 v)]
    rw [pf, psp]
    show ∃ S', b7_readPad_L14 (f7_readPad_L14 F) S (nI D) (nI N) (nd N P) (nI k) = _ ∧ _
    rw [hk1]
    clear hk1
    have i1 := in7 S (c := ch k) 48 57 (by omega) (by decide) (by decide)
    have i2 := in7 S (c := ch k) 97 104 (by omega) (by decide) (by decide)
    rw [show nI 48 = (48 : Int32) from rfl, show nI 57 = (57 : Int32) from rfl] at i1
    rw [show nI 97 = (97 : Int32) from rfl, show nI 104 = (104 : Int32) from rfl] at i2
    unfold f7_readPad_J54
    rw [i1, xbI_eq]
    by_cases c1 : 48 ≤ ch k ∧ ch k ≤ 57
    · simp only [if_pos c1]
      rw [if_neg (by decide), num7 hN (by omega) c1.1]
      unfold f7_readPad_J260
      rw [nI_1]
      by_cases c2 : 10 * N + ch k - 48 = 0
      · have q2 : nI (10 * N + ch k - 48) = 0 := by rw [c2]; rfl
        rw [if_pos q2, if_pos (Or.inl c2)]
        exact ⟨S, rfl, fun h => absurd h (nI_n6 (by omega)), FP.rf⟩
      · have q2 : ¬ nI (10 * N + ch k - 48) = 0 := nI_ne0 (by omega) (by omega)
        rw [if_neg q2]
        by_cases c3 : 60 < 10 * N + ch k - 48
        · have q3 : ¬ nI (10 * N + ch k - 48) ≤ 60 := nI_ge (a := 60) c3 (by omega)
          rw [if_neg q3, if_pos (Or.inr c3)]
          exact ⟨S, rfl, fun h => absurd h (nI_n6 (by omega)), FP.rf⟩
        · have q3 : nI (10 * N + ch k - 48) ≤ 60 := nI_le (b := 60) (by omega) (by decide)
          have hnd : nd (10 * N + ch k - 48) P = 1 := by unfold nd; rw [if_neg (fun q => c2 q.1)]
          have ih := pad7 hch d F (k + 1) D (10 * N + ch k - 48) P z S (by omega) (by omega) hD (by omega) hP hp hs hz hR
          rw [hnd] at ih
          rw [if_pos q3, if_neg (fun q => q.elim c2 c3)]
          exact ih
    · simp only [if_neg c1]
      rw [if_pos trivial, i2, xbI_eq]
      have n4041 : (97 ≤ ch k ∧ ch k ≤ 104) → ¬ nI (ch k) = 40 ∧ ¬ nI (ch k) = 41 := fun h => ⟨fun q => by have := nI_inj (b := 40) (by omega) (by decide) q; omega, fun q => by have := nI_inj (b := 41) (by omega) (by decide) q; omega⟩
      by_cases c2 : 97 ≤ ch k ∧ ch k ≤ 104
      · simp only [if_pos c2]
        rw [if_neg (by decide)]
        by_cases c3 : N = 1
        · rw [if_pos (hk0.mpr c3), if_pos c3]
          unfold f7_readPad_J175 f7_readPad_J220
          rw [if_neg (n4041 c2).1, if_neg (n4041 c2).2]
          exact ⟨S, rfl, fun h => absurd h (nI_n6 (by omega)), FP.rf⟩
        · rw [if_neg (fun q => c3 (hk0.mp q)), if_neg c3, hR.1]
          unfold f7_readPad_J160 f7_readPad_J260
          have hnd : nd 0 1 = 0 := rfl
          have fin : ∀ S1, RZ S1 (zsg z (ch k - 97) (max N 1)) D → FP S S1 → ∃ S', f7_readPad_L14 F S1 (nI D) 0 0 (nI k + 1) = some (S', some (.int (pf ch p d (k + 1) D 0 1))) ∧ (pf ch p d (k + 1) D 0 1 = -6 → S' 7 0 20 = nI (psp ch d (k + 1) D 0 (zsg z (ch k - 97) (max N 1)) 0 0) ∧ (psp ch d (k + 1) D 0 (zsg z (ch k - 97) (max N 1)) 0 0 ≤ 240 → ∀ j, j < psp ch d (k + 1) D 0 (zsg z (ch k - 97) (max N 1)) 0 0 → S' 47 0 j = nI (psp ch d (k + 1) D 0 (zsg z (ch k - 97) (max N 1)) 1 j))) ∧ FP S S' := by
            intro S1 g1 g2
            obtain ⟨S2, e2, k1, k2⟩ := pad7 hch d F (k + 1) D 0 1 (zsg z (ch k - 97) (max N 1)) S1 (by omega) (by omega) hD (by omega) (by omega) (by rw [g2.2 6 (by decide)]; exact hp) (fun j hj => by rw [g2.1 37 (by decide) (by decide)]; exact hs j hj) (zsg_ZI hz (by omega) (by omega)) g1
            rw [hnd, nI_0] at e2
            refine ⟨S2, ?_, k1, g2.tr k2⟩
            rw [nI_1]
            exact e2
          by_cases c4 : 240 < z 0 0
          · have q4 : (240 : Int32) < nI (z 0 0) := nI_lt (a := 240) c4 (by omega)
            rw [if_pos q4]
            obtain ⟨S1, e1, g1, g2⟩ := sgn7f (s := ch k - 97) (t := max N 1) hz hR (by omega) (by omega) (by omega)
            rw [e1, xbV_eq]
            exact fin S1 g1 g2
          · have q4 : ¬ ((240 : Int32) < nI (z 0 0)) := nI_nlt (a := 240) (b := z 0 0) (by omega) (by decide)
            have h97 : nI (ch k) - 97 = nI (ch k - 97) := pk_sub (b := 97) c2.1
            rw [if_neg q4, xat_ok (by omega) (by decide), xlet_eq, h97, xup_o (show ¬ 7 = 47 by decide), hR.1, xlet_eq, nI_1]
            obtain ⟨S1, e1, g1, g2⟩ := sgn7 (s := ch k - 97) (t := max N 1) hz hR (by omega) (by omega) (by omega)
            rw [e1, xbV_eq]
            exact fin S1 g1 g2
      · simp only [if_neg c2]
        rw [if_pos trivial]
        unfold f7_readPad_J175
        by_cases c3 : ch k = 40
        · have q40 : nI (ch k) = 40 := by rw [c3]; rfl
          have n41 : ¬ nI (ch k) = 41 := by rw [c3]; decide
          simp only [if_pos c3]
          rw [if_pos q40]
          have h220 : f7_readPad_J220 (f7_readPad_L14 F) S (nI D) (nI N) (nd N P) (nI k) (nI (ch k)) = some (S, some (.int (nI k))) := by
            unfold f7_readPad_J220
            rw [if_neg n41]
          by_cases c4 : N = 1
          · rw [if_pos (hk0.mpr c4), if_pos (Or.inl c4), h220]
            exact ⟨S, rfl, fun h => absurd h (nI_n6 (by omega)), FP.rf⟩
          · rw [if_neg (fun q => c4 (hk0.mp q))]
            by_cases c5 : D = 3
            · have q5 : (3 : Int32) ≤ nI D := nI_le (a := 3) (by omega) (by omega)
              rw [if_pos q5, if_pos (Or.inr c5), h220]
              exact ⟨S, rfl, fun h => absurd h (nI_n6 (by omega)), FP.rf⟩
            · have q5 : ¬ ((3 : Int32) ≤ nI D) := nI_ge (a := D) (b := 3) (by omega) (by decide)
              rw [if_neg q5, if_neg (fun q => q.elim c4 c5), xat_ok (by omega) (by decide), hR.1, xlet_eq, xat_ok (by omega) (by decide), xlet_eq]
              unfold f7_readPad_J260
              obtain ⟨S2, e2, k1, k2⟩ := pad7 hch d F (k + 1) (D + 1) 0 0 (zop z D (max N 1)) (xup (xup S 48 0 D (nI (z 0 0))) 49 0 D (nI (max N 1))) (by omega) (by omega) (by omega) (by omega) (by omega) (by rw [xup_o (by decide), xup_o (by decide)]; exact hp) (fun j hj => by rw [xup_o (by decide), xup_o (by decide)]; exact hs j hj) (zop_ZI hz (by omega) (by omega)) ⟨by rw [xup_o (by decide), xup_o (by decide)]; exact hR.1, fun h j hj => by rw [xup_o (by decide), xup_o (by decide)]; exact hR.2.1 h j hj, fun i hi => by
                rw [xup_o (by decide), xup_s, xup_s, zop_2, zop_3]
                by_cases ci : i = D
                · rw [if_pos ci, if_pos ci, if_pos ci, if_pos ci]; exact ⟨rfl, rfl⟩
                · rw [if_neg ci, if_neg ci, if_neg ci, if_neg ci, xup_o (by decide)]; exact hR.2.2 i (by omega)⟩
              have hnd : nd 0 0 = 1 := rfl
              rw [hnd, nI_0] at e2
              refine ⟨S2, ?_, k1, ((FP.up (by decide)).tr (FP.up (by decide))).tr k2⟩
              rw [nI_1, nI_1]
              exact e2
        · have n40 : ¬ nI (ch k) = 40 := fun q => c3 (nI_inj (b := 40) (by omega) (by decide) q)
          simp only [if_neg c3]
          rw [if_neg n40]
          unfold f7_readPad_J220
          by_cases c4 : ch k = 41
          · have q41 : nI (ch k) = 41 := by rw [c4]; rfl
            simp only [if_pos c4]
            rw [if_pos q41]
            by_cases c5 : D = 0
            · have q5 : nI D ≤ 0 := by rw [c5]; decide
              rw [if_pos q5, if_pos (Or.inr (Or.inl c5))]
              exact ⟨S, rfl, fun h => absurd h (nI_n6 (by omega)), FP.rf⟩
            · have q5 : ¬ nI D ≤ 0 := nI_nle (by omega) (by omega)
              rw [if_neg q5]
              by_cases c6 : N = 0 ∧ ¬ P = 0
              · obtain ⟨D', rfl⟩ : ∃ D', D = D' + 1 := ⟨D - 1, by omega⟩
                have hnd : nd N P = 0 := by unfold nd; rw [if_pos c6]
                obtain ⟨h48, h49⟩ := hR.2.2 D' (by omega)
                obtain ⟨S1, e1, g1, g2⟩ := cls7 hz hR
                obtain ⟨S2, e2, k1, k2⟩ := pad7 hch d F (k + 1) D' 0 P (zcl z D') S1 (by omega) (by omega) (by omega) (by omega) hP (by rw [g2.2 6 (by decide)]; exact hp) (fun j hj => by rw [g2.1 37 (by decide) (by decide)]; exact hs j hj) (zcl_ZI hz) g1
                have hnd0 : nd 0 P = 0 := by unfold nd; rw [if_pos ⟨rfl, c6.2⟩]
                have hno : ¬ (¬ N = 0 ∨ D' + 1 = 0 ∨ P = 0) := fun q => q.elim (fun q => q c6.1) (fun q => q.elim c5 c6.2)
                simp only [if_neg hno]
                refine ⟨S2, ?_, k1, g2.tr k2⟩
                unfold f7_readPad_J260
                rw [hnd, if_pos rfl, pred_n (by omega), show D' + 1 - 1 = D' by omega, xat_ok (by omega) (by decide), xat_ok (by omega) (by decide), h48, h49, e1, xbV_eq, nI_1, c6.1]
                rw [hnd0] at e2
                exact e2
              · have hnd : nd N P = 1 := by unfold nd; rw [if_neg c6]
                rw [hnd, if_neg (by decide), if_pos (by omega)]
                exact ⟨S, rfl, fun h => absurd h (nI_n6 (by omega)), FP.rf⟩
          · have n41 : ¬ nI (ch k) = 41 := fun q => c4 (nI_inj (b := 41) (by omega) (by decide) q)
            simp only [if_neg c4]
            rw [if_neg n41]
            exact ⟨S, rfl, fun h => absurd h (nI_n6 (by omega)), FP.rf⟩
