/-! set, cut, add -/
theorem fin6 {S S1 : xSt} {T : wS} {a : Nat → Nat} (hA : AV a) (h : CJ S1 T) (hF : ∀ t o, ¬ (o = 0 ∧ (t = 4 ∨ t = 22 ∨ t = 23 ∨ t = 24)) → S t o = S1 t o) (h22 : ∀ i, i < 3 → S 22 0 i = nI (a i)) (h4 : S 4 0 3 = nI (a 3)) (h23 : ∀ j, j < a 3 → S 23 0 j = nI (a (10 + j))) (hz : ∀ k, k < 281 → a (250 + k) = 0) :
    ∃ S4 S5, f4_mendCodes S 0 = some (S4, none) ∧ f6_refresh S4 = some (S5, none) ∧ CI S5 (wq T a) ∧ Cfr S S5 := by
  obtain ⟨S4, hS4⟩ : ∃ S4, S4 = xua S 24 0 (fun j => if j < 281 then 0 else S 24 0 j) := ⟨_, rfl⟩
  have o4 : ∀ t, ¬ t = 24 → S4 t = S t := fun t h => by rw [hS4, xua_o h]
  have hcv : CV S4 0 a := by
    refine ⟨fun i hi => ?_, ?_, fun j hj => ?_, fun k hk => ?_⟩
    · rw [o4 22 (by decide)]; exact h22 i hi
    · rw [o4 4 (by decide)]; exact h4
    · rw [o4 23 (by decide)]; exact h23 j hj
    · rw [hS4, xua_s]
      show (if k < 281 then (0 : Int32) else S 24 0 k) = _
      rw [if_pos hk, hz k hk]; rfl
  have hJ : CJ S4 (wq T a) := CJ_q h (fun t o hto => by
    rw [← hF t o hto, hS4]
    simp only [xua]
    rw [if_neg (fun q => hto ⟨q.2, by omega⟩)]) hcv
  obtain ⟨S5, e5, g1, g2, g3⟩ := CJ_refresh (T := wq T a) hA hJ
  refine ⟨S4, S5, ?_, e5, g1, Cfr.tr (fun t ht => o4 t (by omega)) g2⟩
  rw [hS4]
  rfl
theorem fin7 {S S1 : xSt} {T : wS} {a : Nat → Nat} (h : MI S1 T) (h2 : S 7 0 2 = S1 7 0 2) (h6 : S 7 0 6 = S1 7 0 6) (ha : ∀ t, 34 ≤ t → t ≤ 37 → S t 0 = S1 t 0) (h3 : a 3 ≤ 240) (hv : ∀ i, (i < 4 ∨ (10 ≤ i ∧ i < 10 + a 3)) → S 33 0 i = nI (a i)) (hz : ∀ i, 250 ≤ i → i < 560 → a i = 0) :
    ∃ S', f7_mend S = some (S', none) ∧ MI S' (wq T a) ∧ Mfr S S' ∧ S' 33 0 3 = nI (a 3) := by
  have l := mend_loop 310 xFU 250 S rfl (by show 310 < 1000000; omega)
  obtain ⟨S', hS'⟩ : ∃ S', S' = cpl 33 0 (fun _ => 0) 310 250 S := ⟨_, rfl⟩
  rw [← hS'] at l
  have o : ∀ t, ¬ t = 33 → S' t = S t := fun t h => by rw [hS', cpl_o h]
  have e : ∀ i, i < 560 → (i < 4 ∨ (10 ≤ i ∧ i < 10 + a 3) ∨ 250 ≤ i) → S' 33 0 i = nI (a i) := by
    intro i hi hc
    rw [hS', cpl_s]
    by_cases c : 250 ≤ i
    · rw [if_pos (by omega), hz i c hi]; rfl
    · rw [if_neg (by omega)]; exact hv i (by omega)
  refine ⟨S', l, ?_, fun t h7 h32 => o t (by omega), e 3 (by decide) (by omega)⟩
  refine MI_q h (by rw [o 7 (by decide)]; exact h2) (by rw [o 7 (by decide)]; exact h6) (fun t t1 t2 => by rw [o t (by omega)]; exact ha t t1 t2) ?_
  intro i hi hc
  rw [Nat.zero_add]
  exact e i hi hc
/-- place st holds v, nothing is turned -/
def sT (a : Nat → Nat) (st v : Nat) : Nat → Nat := fun i => if 250 ≤ i then 0 else if i = st then v else a i
theorem sT_z {a : Nat → Nat} {st v i : Nat} (h : 250 ≤ i) : sT a st v i = 0 := if_pos h
theorem sT_s {a : Nat → Nat} {st v : Nat} (h : st < 250) : sT a st v st = v := by
  show (if 250 ≤ st then 0 else if st = st then v else a st) = v
  rw [if_neg (by omega), if_pos rfl]
theorem sT_o {a : Nat → Nat} {st v i : Nat} (h : i < 250) (h2 : ¬ i = st) : sT a st v i = a i := by
  show (if 250 ≤ i then 0 else if i = st then v else a i) = a i
  rw [if_neg (by omega), if_neg h2]
theorem set7_ok (S : xSt) {i : Nat} (hi : i < 3) (a : Int32) : f7_isSetting S (nI i) a = some (S, some (.int (if xSf 0 i ≤ a ∧ a ≤ xSf 1 i then 1 else 0))) := by
  have hd : i = 0 ∨ i = 1 ∨ i = 2 := by omega
  unfold f7_isSetting
  rcases hd with rfl | rfl | rfl
  · rw [if_pos (show nI 0 = 0 from rfl), f7_in_ok, xbI_eq]
    by_cases c : (4 : Int32) ≤ a ∧ a ≤ 9
    · have c2 : xSf 0 0 ≤ a ∧ a ≤ xSf 1 0 := c
      rw [if_pos c, if_pos c2]; exact if_pos (by decide)
    · have c2 : ¬ (xSf 0 0 ≤ a ∧ a ≤ xSf 1 0) := c
      rw [if_neg c, if_neg c2]; exact if_pos (by decide)
  · rw [if_neg (show ¬ nI 1 = 0 by decide), if_pos (show nI 1 = 1 from rfl), f7_in_ok, xbI_eq]
    by_cases c : (0 : Int32) ≤ a ∧ a ≤ 2
    · have c2 : xSf 0 1 ≤ a ∧ a ≤ xSf 1 1 := c
      rw [if_pos c, if_pos c2]; exact if_pos (by decide)
    · have c2 : ¬ (xSf 0 1 ≤ a ∧ a ≤ xSf 1 1) := c
      rw [if_neg c, if_neg c2]; exact if_pos (by decide)
  · rw [if_neg (show ¬ nI 2 = 0 by decide), if_neg (show ¬ nI 2 = 1 by decide), if_pos (show nI 2 = 2 from rfl), f7_in_ok, xbI_eq]
    by_cases c : (4 : Int32) ≤ a ∧ a ≤ 32
    · have c2 : xSf 0 2 ≤ a ∧ a ≤ xSf 1 2 := c
      rw [if_pos c, if_pos c2, if_neg (by decide)]; exact if_pos (by decide)
    · have c2 : ¬ (xSf 0 2 ≤ a ∧ a ≤ xSf 1 2) := c
      rw [if_neg c, if_neg c2, if_pos rfl]; exact if_pos (by decide)
theorem sT_AV {a : Nat → Nat} (hA : AV a) {i : Nat} (hi : i < 3) {y : Int32} (h1 : xSf 0 i ≤ y) (h2 : y ≤ xSf 1 i) : ∃ v, y = nI v ∧ AV (sT a i v) := by
  obtain ⟨a1, a2, a3, a4, a5, a6, a7⟩ := hA
  have hd : i = 0 ∨ i = 1 ∨ i = 2 := by omega
  rcases hd with rfl | rfl | rfl
  · obtain ⟨v, v1, v2, rfl⟩ := arg_in (a := 4) (b := 9) (by decide) h1 h2 (by decide)
    refine ⟨v, rfl, ?_⟩
    unfold AV
    rw [sT_s (by decide), sT_o (i := 1) (by decide) (by decide), sT_o (i := 2) (by decide) (by decide), sT_o (i := 3) (by decide) (by decide)]
    exact ⟨⟨v1, v2⟩, a2, a3, a4, fun j hj => by rw [sT_o (by omega) (by omega)]; exact a5 j hj, fun k hk => by rw [sT_z (by omega)]; decide, fun k _ _ => sT_z (by omega)⟩
  · obtain ⟨v, v1, v2, rfl⟩ := arg_in (a := 0) (b := 2) (by decide) h1 h2 (by decide)
    refine ⟨v, rfl, ?_⟩
    unfold AV
    rw [sT_s (by decide), sT_o (i := 0) (by decide) (by decide), sT_o (i := 2) (by decide) (by decide), sT_o (i := 3) (by decide) (by decide)]
    exact ⟨a1, v2, a3, a4, fun j hj => by rw [sT_o (by omega) (by omega)]; exact a5 j hj, fun k hk => by rw [sT_z (by omega)]; decide, fun k _ _ => sT_z (by omega)⟩
  · obtain ⟨v, v1, v2, rfl⟩ := arg_in (a := 4) (b := 32) (by decide) h1 h2 (by decide)
    refine ⟨v, rfl, ?_⟩
    unfold AV
    rw [sT_s (by decide), sT_o (i := 0) (by decide) (by decide), sT_o (i := 1) (by decide) (by decide), sT_o (i := 3) (by decide) (by decide)]
    exact ⟨a1, a2, ⟨v1, v2⟩, a4, fun j hj => by rw [sT_o (by omega) (by omega)]; exact a5 j hj, fun k hk => by rw [sT_z (by omega)]; decide, fun k _ _ => sT_z (by omega)⟩
theorem set_no (S : xSt) {x : Int32} (y : Int32) (h : ¬ (0 ≤ x ∧ x ≤ 2)) : f6_isSetting S x y = some (S, some (.int 0)) ∧ f7_isSetting S x y = some (S, some (.int 0)) := by
  constructor
  · unfold f6_isSetting
    by_cases c : x < 0
    · rw [if_pos c]; exact if_pos (by decide)
    · have c2 : (2 : Int32) < x := Int32.not_le.mp (fun q => h ⟨Int32.not_lt.mp c, q⟩)
      rw [if_neg c, if_pos c2]; exact if_pos (by decide)
  · have n0 : ¬ x = 0 := fun q => h (by rw [q]; decide)
    have n1 : ¬ x = 1 := fun q => h (by rw [q]; decide)
    have n2 : ¬ x = 2 := fun q => h (by rw [q]; decide)
    unfold f7_isSetting
    rw [if_neg n0, if_neg n1, if_neg n2]; exact if_pos (by decide)
theorem set_ok {T : wS} (hA : AI T) (x y : Int32) : OKc (fun S => f6_set S x y) (fun S => f7_set S x y) T := by
  by_cases c : (0 : Int32) ≤ x ∧ x ≤ 2
  · obtain ⟨i, i1, i2, rfl⟩ := arg_in (a := 0) (b := 2) (by decide) c.1 c.2 (by decide)
    by_cases c2 : xSf 0 i ≤ y ∧ y ≤ xSf 1 i
    · obtain ⟨v, rfl, hv⟩ := sT_AV hA.1 (i := i) (by omega) c2.1 c2.2
      have hn := hA.1.2.2.2.1
      have r0 : rT T 0 = T 0 := rT_o (Or.inl rfl)
      refine ⟨nI (T 0 i), wq (rT T) (sT (T 0) i v), wq_AI (rT_AI hA) hv, fun S hC => ?_, fun S hM => ?_⟩
      · obtain ⟨S1, e1, g1, g2⟩ := record6 hA (CI_CJ hC)
        have hv1 := g1.1
        rw [r0] at hv1
        obtain ⟨S4, S5, e4, e5, k1, k2⟩ := fin6 (S := xup S1 22 0 i (nI v)) (S1 := S1) (T := rT T) (a := sT (T 0) i v) hv g1 (fun t o h => by
            simp only [xup, xua]
            rw [if_neg (fun q => h ⟨q.2, by omega⟩)]) (fun j hj => by
            rw [xup_s]
            by_cases cj : j = i
            · rw [if_pos cj, cj, sT_s (by omega)]
            · rw [if_neg cj, sT_o (by omega) cj]; exact hv1.1 j hj) (by rw [xup_o (by decide), sT_o (by decide) (by omega)]; exact hv1.2.1) (fun j hj => by
            rw [sT_o (by decide) (by omega)] at hj
            rw [xup_o (by decide), sT_o (by omega) (by omega)]; exact hv1.2.2.1 j hj) (fun k hk => sT_z (by omega))
        refine ⟨S5, ?_, k1, g2.tr ((up_Cfr (by decide)).tr k2)⟩
        show f6_set S (nI i) (nI v) = _
        unfold f6_set
        rw [set6_ok S (by omega), xbI_eq, if_pos c2, if_neg (by decide), e1, xbV_eq, xat_ok (by omega) (by decide), xat_ok (by omega) (by decide), xlet_eq, e4, xbV_eq, e5, xbV_eq, hv1.1 i (by omega)]
      · obtain ⟨S1, e1, g1, g2, g3⟩ := record7 hA hM
        have hv1 := g1.1
        rw [r0] at hv1
        obtain ⟨S4, e4, k1, k2, k3⟩ := fin7 (S := xup S1 33 0 i (nI v)) (S1 := S1) (T := rT T) (a := sT (T 0) i v) g1 (by rw [xup_o (by decide)]) (by rw [xup_o (by decide)]) (fun t t1 t2 => by rw [xup_o (by omega)]) hv.2.2.2.1 (fun j hj => by
            rw [sT_o (by decide) (by omega)] at hj
            rw [xup_s]
            by_cases cj : j = i
            · rw [if_pos cj, cj, sT_s (by omega)]
            · rw [if_neg cj, sT_o (by omega) cj]; exact MV0 hv1 (by omega) (by omega)) (fun j h1 h2 => sT_z h1)
        refine ⟨S4, ?_, k1, Mfr.tr (fun t h7 h32 => g2 t (by omega) h7) ((up_Mfr (by decide)).tr k2)⟩
        show f7_set S (nI i) (nI v) = _
        unfold f7_set
        rw [set7_ok S (by omega), xbI_eq, if_pos c2, if_neg (by decide), e1, xbV_eq, xat_ok (by omega) (by decide), xat_ok (by omega) (by decide), xlet_eq, e4, xbV_eq, MV0 hv1 (i := i) (by omega) (by omega)]
    · refine ⟨-2, T, hA, fun S hC => ⟨S, ?_, hC, Cfr.rf⟩, fun S hM => ⟨S, ?_, hM, Mfr.rf⟩⟩
      · show f6_set S (nI i) y = _
        unfold f6_set
        rw [set6_ok S (by omega), xbI_eq, if_neg c2, if_pos rfl]
      · show f7_set S (nI i) y = _
        unfold f7_set
        rw [set7_ok S (by omega), xbI_eq, if_neg c2, if_pos rfl]
  · refine ⟨-2, T, hA, fun S hC => ⟨S, ?_, hC, Cfr.rf⟩, fun S hM => ⟨S, ?_, hM, Mfr.rf⟩⟩
    · show f6_set S x y = _
      unfold f6_set
      rw [(set_no S y c).1, xbI_eq, if_pos rfl]
    · show f7_set S x y = _
      unfold f7_set
      rw [(set_no S y c).2, xbI_eq, if_pos rfl]
theorem cut_ok {T : wS} (hA : AI T) (x : Int32) : OKc (fun S => f6_cut S x) (fun S => f7_cut S x) T := by
  have hn := hA.1.2.2.2.1
  by_cases c : (1 : Int32) ≤ x ∧ x ≤ 240
  · obtain ⟨q, q1, q2, rfl⟩ := arg_in (a := 1) (b := 240) (by decide) c.1 c.2 (by decide)
    have n1 : ¬ nI q < 1 := Int32.not_lt.mpr c.1
    by_cases cq : q ≤ T 0 3
    · have hle : nI q ≤ nI (T 0 3) := nI_le cq (by omega)
      have r0 : rT T 0 = T 0 := rT_o (Or.inl rfl)
      have hsub : nI (T 0 3) - nI q = nI (T 0 3 - q) := pk_sub cq
      have e3 : sT (T 0) 3 (T 0 3 - q) 3 = T 0 3 - q := sT_s (by decide)
      have hv : AV (sT (T 0) 3 (T 0 3 - q)) := by
        obtain ⟨a1, a2, a3, a4, a5, a6, a7⟩ := hA.1
        unfold AV
        rw [e3, sT_o (i := 0) (by decide) (by decide), sT_o (i := 1) (by decide) (by decide), sT_o (i := 2) (by decide) (by decide)]
        exact ⟨a1, a2, a3, by omega, fun j hj => by rw [sT_o (by omega) (by omega)]; exact a5 j (by omega), fun k hk => by rw [sT_z (by omega)]; decide, fun k _ _ => sT_z (by omega)⟩
      refine ⟨nI (T 0 3 - q), wq (rT T) (sT (T 0) 3 (T 0 3 - q)), wq_AI (rT_AI hA) hv, fun S hC => ?_, fun S hM => ?_⟩
      · obtain ⟨S1, e1, g1, g2⟩ := record6 hA (CI_CJ hC)
        have hv1 := g1.1
        rw [r0] at hv1
        obtain ⟨S4, S5, e4, e5, k1, k2⟩ := fin6 (S := xup S1 4 0 3 (nI (T 0 3 - q))) (S1 := S1) (T := rT T) (a := sT (T 0) 3 (T 0 3 - q)) hv g1 (fun t o h => by
            simp only [xup, xua]
            rw [if_neg (fun q => h ⟨q.2, by omega⟩)]) (fun j hj => by rw [xup_o (by decide), sT_o (by omega) (by omega)]; exact hv1.1 j hj) (by rw [xup_s, if_pos rfl, e3]) (fun j hj => by
            rw [e3] at hj
            rw [xup_o (by decide), sT_o (by omega) (by omega)]; exact hv1.2.2.1 j (by omega)) (fun k hk => sT_z (by omega))
        refine ⟨S5, ?_, k1, g2.tr ((up_Cfr (by decide)).tr k2)⟩
        show f6_cut S (nI q) = _
        have h5 := k1.1.2.1
        rw [wq_0, e3] at h5
        unfold f6_cut
        rw [if_neg n1, if_pos c.2, hC.1.2.1, if_pos hle, e1, xbV_eq, hv1.2.1, hsub, xlet_eq, e4, xbV_eq, e5, xbV_eq, h5]
      · obtain ⟨S1, e1, g1, g2, g3⟩ := record7 hA hM
        have hv1 := g1.1
        rw [r0] at hv1
        obtain ⟨S4, e4, k1, k2, k3⟩ := fin7 (S := xup S1 33 0 3 (nI (T 0 3 - q))) (S1 := S1) (T := rT T) (a := sT (T 0) 3 (T 0 3 - q)) g1 (by rw [xup_o (by decide)]) (by rw [xup_o (by decide)]) (fun t t1 t2 => by rw [xup_o (by omega)]) hv.2.2.2.1 (fun j hj => by
            rw [e3] at hj
            rw [xup_s]
            by_cases cj : j = 3
            · rw [if_pos cj, cj, e3]
            · rw [if_neg cj, sT_o (by omega) cj]; exact MV0 hv1 (by omega) (by omega)) (fun j h1 h2 => sT_z h1)
        refine ⟨S4, ?_, k1, Mfr.tr (fun t h7 h32 => g2 t (by omega) h7) ((up_Mfr (by decide)).tr k2)⟩
        show f7_cut S (nI q) = _
        rw [e3] at k3
        unfold f7_cut
        rw [f7_in_ok, xbI_eq, if_pos c, if_neg (by decide), xat_lit (v := 3) 3 rfl (by decide) (by decide), MV0 hM.1 (i := 3) (by omega) (by omega), if_pos hle, e1, xbV_eq, xat_lit (v := 3) 3 rfl (by decide) (by decide), xat_lit (v := 3) 3 rfl (by decide) (by decide), MV0 hv1 (i := 3) (by omega) (by omega), hsub, xlet_eq, e4, xbV_eq, xat_lit (v := 3) 3 rfl (by decide) (by decide), k3]
    · have hle : ¬ nI q ≤ nI (T 0 3) := nI_ge (by omega) (by omega)
      refine ⟨-5, T, hA, fun S hC => ⟨S, ?_, hC, Cfr.rf⟩, fun S hM => ⟨S, ?_, hM, Mfr.rf⟩⟩
      · show f6_cut S (nI q) = _
        unfold f6_cut
        rw [if_neg n1, if_pos c.2, hC.1.2.1, if_neg hle]
      · show f7_cut S (nI q) = _
        unfold f7_cut
        rw [f7_in_ok, xbI_eq, if_pos c, if_neg (by decide), xat_lit (v := 3) 3 rfl (by decide) (by decide), MV0 hM.1 (i := 3) (by omega) (by omega), if_neg hle]
  · refine ⟨-2, T, hA, fun S hC => ⟨S, ?_, hC, Cfr.rf⟩, fun S hM => ⟨S, ?_, hM, Mfr.rf⟩⟩
    · show f6_cut S x = _
      unfold f6_cut
      by_cases c1 : x < 1
      · rw [if_pos c1]
      · rw [if_neg c1, if_neg (fun q => c ⟨Int32.not_lt.mp c1, q⟩)]
    · show f7_cut S x = _
      unfold f7_cut
      rw [f7_in_ok, xbI_eq, if_neg c, if_pos rfl]
