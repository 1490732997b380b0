/-! the commands -/
theorem CV_fr {S S' : xSt} {o : Nat} {a : Nat → Nat} (h : CV S o a) (h4 : S' 4 o = S 4 o) (h22 : S' 22 o = S 22 o) (h23 : S' 23 o = S 23 o) (h24 : S' 24 o = S 24 o) : CV S' o a := by
  unfold CV at h ⊢
  simp only [h4, h22, h23, h24]
  exact h
theorem BS_fr {S S' : xSt} {o : Nat} (h : BS S o) (h10 : S' 10 o = S 10 o) (h11 : S' 11 o = S 11 o) (h12 : S' 12 o = S 12 o) : BS S' o := by
  unfold BS at h ⊢
  simp only [h10, h11, h12]
  exact h
theorem arg_in {x : Int32} {a b : Nat} (hb : b < 2 ^ 31) (h1 : nI a ≤ x) (h2 : x ≤ nI b) (ha : a ≤ b) : ∃ j, a ≤ j ∧ j ≤ b ∧ x = nI j := by
  have h0 : ¬ x < 0 := Int32.not_lt.mpr (Int32.le_trans (nI_le (a := 0) (Nat.zero_le _) (by omega)) h1)
  obtain ⟨j, hj, rfl⟩ := nI_of2 (M := nI b) (n := b) (nI_toInt hb) h0 h2
  refine ⟨j, ?_, hj, rfl⟩
  by_cases c : a ≤ j
  · exact c
  · exact absurd h1 (nI_ge (by omega) (by omega))
/-- the reference tries to write -/
theorem copy_ok (S : xSt) (o1 o2 : Nat) : ∃ S', f6_copyState S o1 o2 = some (S', none) ∧ (∀ a, a 3 ≤ 240 → CV S o1 a → CV S' o2 a) ∧ ∀ t o, ¬ (o = o2 ∧ (t = 4 ∨ t = 22 ∨ t = 23 ∨ t = 24)) → S' t o = S t o := by
  have k3 : xcpok (0 : Int32) (0 : Int32) (3 : Int32) 3 3 := by decide
  have k240 : xcpok (0 : Int32) (0 : Int32) (240 : Int32) 240 240 := by decide
  have k281 : xcpok (0 : Int32) (0 : Int32) (281 : Int32) 281 281 := by decide
  have z0 : (0 : Int32).toNatClampNeg = 0 := rfl
  have z3 : (3 : Int32).toNatClampNeg = 3 := rfl
  have z240 : (240 : Int32).toNatClampNeg = 240 := rfl
  have z281 : (281 : Int32).toNatClampNeg = 281 := rfl
  have hne : ∀ (c : Prop) [Decidable c] (k : Option xR), c → xne c k = k := fun c _ k h => if_pos h
  refine ⟨xup (xua (xua (xua S 22 o2 (va_cpy (S 22 o1) (S 22 o2) 0 0 3)) 23 o2 (va_cpy (S 23 o1) (S 23 o2) 0 0 240)) 24 o2 (va_cpy (S 24 o1) (S 24 o2) 0 0 281)) 4 o2 3 (S 4 o1 3), ?_, fun a h3 h => ?_, fun t o h => ?_⟩
  · unfold f6_copyState
    rw [hne _ _ k3, xlet_eq, hne _ _ k240, xlet_eq, hne _ _ k281, xlet_eq, xlet_eq]
    simp (disch := decide) only [z0, z3, z240, z281, xua_o]
  · obtain ⟨v1, v2, v3, v4⟩ := h
    refine ⟨fun i hi => ?_, ?_, fun j hj => ?_, fun k hk => ?_⟩
    · rw [xup_o (by decide), xua_o (by decide), xua_o (by decide), xua_s, sb_cpy0 hi]; exact v1 i hi
    · rw [xup_s, if_pos rfl]; exact v2
    · rw [xup_o (by decide), xua_o (by decide), xua_s, sb_cpy0 (by omega)]; exact v3 j hj
    · rw [xup_o (by decide), xua_s, sb_cpy0 hk]; exact v4 k hk
  · by_cases c : o = o2
    · rw [xup_o (fun q => h ⟨c, by omega⟩), xua_o (fun q => h ⟨c, by omega⟩), xua_o (fun q => h ⟨c, by omega⟩), xua_o (fun q => h ⟨c, by omega⟩)]
    · simp only [xup, xua, if_neg (show ¬ (t = 4 ∧ o = o2) from fun q => c q.2), if_neg (show ¬ (t = 24 ∧ o = o2) from fun q => c q.2), if_neg (show ¬ (t = 23 ∧ o = o2) from fun q => c q.2), if_neg (show ¬ (t = 22 ∧ o = o2) from fun q => c q.2)]
theorem record6_J {S : xSt} {h l : Nat} (hl : l < 6) (hh : h ≤ 6) (e : S 1 0 2 = nI h) : ∃ S', f1_record_J19 0 S (nI l) = some (S', none) ∧ (∀ a, a 3 ≤ 240 → CV S 0 a → CV S' (1 + l) a) ∧ S' 1 0 1 = nI l ∧ S' 1 0 2 = nI (min (h + 1) 6) ∧ ∀ t o, ¬ t = 1 → ¬ (o = 1 + l ∧ (t = 4 ∨ t = 22 ∨ t = 23 ∨ t = 24)) → S' t o = S t o := by
  obtain ⟨S3, e3, g1, g2⟩ := copy_ok (xup (xup S 1 0 1 (nI l)) 1 0 2 (nI (min (h + 1) 6))) 0 (1 + l)
  have hf : ∀ t, ¬ t = 1 → xup (xup S 1 0 1 (nI l)) 1 0 2 (nI (min (h + 1) 6)) t = S t := fun t h => by rw [xup_o h, xup_o h]
  have h1 : S3 1 0 = (xup (xup S 1 0 1 (nI l)) 1 0 2 (nI (min (h + 1) 6))) 1 0 := g2 1 0 (by omega)
  refine ⟨S3, ?_, fun a h3 hc => g1 a h3 (CV_fr hc (by rw [hf 4 (by decide)]) (by rw [hf 22 (by decide)]) (by rw [hf 23 (by decide)]) (by rw [hf 24 (by decide)])), ?_, ?_, fun t o h1 h => (g2 t o h).trans (by rw [hf t h1])⟩
  · have hm : (if (6 : Int32) < nI h + 1 then (6 : Int32) else nI h + 1) = nI (min (h + 1) 6) := by
      rw [nI_1]
      by_cases c : 6 < h + 1
      · have c2 : (6 : Int32) < nI (h + 1) := nI_lt (a := 6) c (by omega)
        rw [if_pos c2, show min (h + 1) 6 = 6 by omega]; rfl
      · have c2 : ¬ ((6 : Int32) < nI (h + 1)) := nI_nlt (a := 6) (b := h + 1) (by omega) (by decide)
        rw [if_neg c2, show min (h + 1) 6 = h + 1 by omega]
    have e2 : (xup S 1 0 1 (nI l)) 1 0 2 = nI h := by rw [xup_s, if_neg (by decide)]; exact e
    have e1 : (xup (xup S 1 0 1 (nI l)) 1 0 2 (nI (min (h + 1) 6))) 1 0 1 = nI l := by rw [xup_s, if_neg (by decide), xup_s, if_pos rfl]
    unfold f1_record_J19
    rw [xlet_eq, xlet_eq, e2, hm, e1, xat_ok hl (by decide), e3, xbV_eq]
  · rw [h1, xup_s, if_neg (by decide), xup_s, if_pos rfl]
  · rw [h1, xup_s, if_pos rfl]
theorem c_record {S : xSt} {a : Nat → Nat} (hA : AV a) (h : QJ S a) : ∃ S', f1_record S 0 = some (S', none) ∧ QJ S' a := by
  obtain ⟨c1, ⟨l, c3, c4⟩, ⟨g, c5, c2⟩, c9⟩ := h
  have hn := hA.2.2.2.1
  obtain ⟨l', hl', he⟩ : ∃ l', l' < 6 ∧ f1_record S 0 = f1_record_J19 0 S (nI l') := by
    unfold f1_record
    rw [c4]
    by_cases c : l < 5
    · have c2 : nI l < 5 := nI_lt (a := l) (b := 5) c (by decide)
      exact ⟨l + 1, by omega, by rw [if_pos c2, nI_1]⟩
    · have c2 : ¬ nI l < 5 := nI_nlt (a := l) (b := 5) (by omega) (by omega)
      exact ⟨0, by omega, by rw [if_neg c2]; rfl⟩
  obtain ⟨S', e1, g1, g2, g3, g4⟩ := record6_J (S := S) hl' c5 c2
  exact ⟨S', he.trans e1, CV_fr c1 (g4 4 0 (by decide) (by omega)) (g4 22 0 (by decide) (by omega)) (g4 23 0 (by decide) (by omega)) (g4 24 0 (by decide) (by omega)), ⟨l', hl', g2⟩, ⟨_, by omega, g3⟩, BS_fr c9 (g4 10 0 (by decide) (by omega)) (g4 11 0 (by decide) (by omega)) (g4 12 0 (by decide) (by omega))⟩
theorem QJ_q {S S1 : xSt} {a b : Nat → Nat} (h : QJ S1 b) (hF : ∀ t o, ¬ (o = 0 ∧ (t = 4 ∨ t = 22 ∨ t = 23 ∨ t = 24)) → S t o = S1 t o) (hv : CV S 0 a) : QJ S a := by
  obtain ⟨c1, c2, c3, c4⟩ := h
  exact ⟨hv, by rw [hF 1 0 (by omega)]; exact c2, by rw [hF 1 0 (by omega)]; exact c3, BS_fr c4 (hF 10 0 (by omega)) (hF 11 0 (by omega)) (hF 12 0 (by omega))⟩
theorem c_fin {S S1 : xSt} {a b : Nat → Nat} (hA : AV a) (h : QJ S1 b) (hF : ∀ t o, ¬ (o = 0 ∧ (t = 4 ∨ t = 22 ∨ t = 23 ∨ t = 24)) → S t o = S1 t o) (h22 : ∀ i, i < 3 → S 22 0 i = nI (a i)) (h4 : S 4 0 3 = nI (a 3)) (h23 : ∀ j, j < a 3 → S 23 0 j = nI (a (10 + j))) (hz : ∀ k, k < 281 → a (250 + k) = 0) :
    ∃ S4 S5, f4_mendCodes S 0 = some (S4, none) ∧ f6_refresh S4 = some (S5, none) ∧ QI S5 a := by
  obtain ⟨S4, hS4⟩ : ∃ S4, S4 = xua S 24 0 (fun j => if j < 281 then 0 else S 24 0 j) := ⟨_, rfl⟩
  have o4 : ∀ t, ¬ t = 24 → S4 t = S t := fun t h => by rw [hS4, xua_o h]
  have hcv : CV S4 0 a := by
    refine ⟨fun i hi => ?_, ?_, fun j hj => ?_, fun k hk => ?_⟩
    · rw [o4 22 (by decide)]; exact h22 i hi
    · rw [o4 4 (by decide)]; exact h4
    · rw [o4 23 (by decide)]; exact h23 j hj
    · rw [hS4, xua_s]
      show (if k < 281 then (0 : Int32) else S 24 0 k) = _
      rw [if_pos hk, hz k hk]; rfl
  have hJ : QJ S4 a := QJ_q h (fun t o hto => by
    rw [← hF t o hto, hS4]
    simp only [xua]
    rw [if_neg (fun q => hto ⟨q.2, by omega⟩)]) hcv
  obtain ⟨S5, e5, g1⟩ := QJ_refresh hA hJ
  refine ⟨S4, S5, ?_, e5, g1⟩
  rw [hS4]
  rfl
def sT (a : Nat → Nat) (st v : Nat) : Nat → Nat := fun i => if 250 ≤ i then 0 else if i = st then v else a i
theorem sT_z {a : Nat → Nat} {st v i : Nat} (h : 250 ≤ i) : sT a st v i = 0 := if_pos h
theorem sT_s {a : Nat → Nat} {st v : Nat} (h : st < 250) : sT a st v st = v := by
  show (if 250 ≤ st then 0 else if st = st then v else a st) = v
  rw [if_neg (by omega), if_pos rfl]
theorem sT_o {a : Nat → Nat} {st v i : Nat} (h : i < 250) (h2 : ¬ i = st) : sT a st v i = a i := by
  show (if 250 ≤ i then 0 else if i = st then v else a i) = a i
  rw [if_neg (by omega), if_neg h2]
theorem set6_ok (S : xSt) {i : Nat} (hi : i < 3) (a : Int32) : f6_isSetting S (nI i) a = some (S, some (.int (if xSf 0 i ≤ a ∧ a ≤ xSf 1 i then 1 else 0))) := by
  have h0 : ¬ (nI i < 0) := nI_nlt (a := i) (b := 0) (Nat.zero_le _) (by omega)
  have h2 : ¬ ((2 : Int32) < nI i) := nI_nlt (a := 2) (b := i) (by omega) (by decide)
  unfold f6_isSetting
  rw [if_neg h0, if_neg h2, xat_ok hi (by decide)]
  by_cases c1 : a < xSf 0 i
  · rw [if_pos c1, if_neg (fun q => absurd c1 (Int32.not_lt.mpr q.1))]; exact if_pos (by decide)
  · rw [if_neg c1, xat_ok hi (by decide)]
    by_cases c2 : xSf 1 i < a
    · rw [if_pos c2, if_neg (fun q => absurd c2 (Int32.not_lt.mpr q.2))]; exact if_pos (by decide)
    · have hp : xSf 0 i ≤ a ∧ a ≤ xSf 1 i := ⟨Int32.not_lt.mp c1, Int32.not_lt.mp c2⟩
      rw [if_neg c2, if_pos hp]; exact if_pos (by decide)
theorem c_set {S : xSt} {a : Nat → Nat} (hA : AV a) (hC : QI S a) {i v : Nat} (hi : i < 3) (c2 : xSf 0 i ≤ nI v ∧ nI v ≤ xSf 1 i) (hv : AV (sT a i v)) : ∃ S', f6_set S (nI i) (nI v) = some (S', some (.int (nI (a i)))) ∧ QI S' (sT a i v) := by
  have hn := hA.2.2.2.1
  obtain ⟨S1, e1, g1⟩ := c_record hA hC.1
  have hv1 := g1.1
  obtain ⟨S4, S5, e4, e5, k1⟩ := c_fin (S := xup S1 22 0 i (nI v)) (S1 := S1) (a := sT a i v) hv g1 (fun t o h => by
      simp only [xup, xua]
      rw [if_neg (fun q => h ⟨q.2, by omega⟩)]) (fun j hj => by
      rw [xup_s]
      by_cases cj : j = i
      · rw [if_pos cj, cj, sT_s (by omega)]
      · rw [if_neg cj, sT_o (by omega) cj]; exact hv1.1 j hj) (by rw [xup_o (by decide), sT_o (by decide) (by omega)]; exact hv1.2.1) (fun j hj => by
      rw [sT_o (by decide) (by omega)] at hj
      rw [xup_o (by decide), sT_o (by omega) (by omega)]; exact hv1.2.2.1 j hj) (fun k hk => sT_z (by omega))
  refine ⟨S5, ?_, k1⟩
  unfold f6_set
  rw [set6_ok S (by omega), xbI_eq, if_pos c2, if_neg (by decide), e1, xbV_eq, xat_ok (by omega) (by decide), xat_ok (by omega) (by decide), xlet_eq, e4, xbV_eq, e5, xbV_eq, hv1.1 i (by omega)]
theorem sT_cut {a : Nat → Nat} (hA : AV a) {q : Nat} : AV (sT a 3 (a 3 - q)) := by
  have e3 : sT a 3 (a 3 - q) 3 = a 3 - q := sT_s (by decide)
  obtain ⟨a1, a2, a3, a4, a5, a6, a7⟩ := hA
  unfold AV
  rw [e3, sT_o (i := 0) (by decide) (by decide), sT_o (i := 1) (by decide) (by decide), sT_o (i := 2) (by decide) (by decide)]
  exact ⟨a1, a2, a3, by omega, fun j hj => by rw [sT_o (by omega) (by omega)]; exact a5 j (by omega), fun k hk => by rw [sT_z (by omega)]; decide, fun k _ _ => sT_z (by omega)⟩
theorem c_cut {S : xSt} {a : Nat → Nat} (hA : AV a) (hC : QI S a) {q : Nat} (q1 : 1 ≤ q) (q2 : q ≤ 240) (cq : q ≤ a 3) : ∃ S', f6_cut S (nI q) = some (S', some (.int (nI (a 3 - q)))) ∧ QI S' (sT a 3 (a 3 - q)) := by
  have hn := hA.2.2.2.1
  have n1 : ¬ nI q < 1 := Int32.not_lt.mpr (nI_le (a := 1) q1 (by omega))
  have n2 : nI q ≤ 240 := nI_le (b := 240) q2 (by decide)
  have hle : nI q ≤ nI (a 3) := nI_le cq (by omega)
  have hsub : nI (a 3) - nI q = nI (a 3 - q) := pk_sub cq
  have e3 : sT a 3 (a 3 - q) 3 = a 3 - q := sT_s (by decide)
  obtain ⟨S1, e1, g1⟩ := c_record hA hC.1
  have hv1 := g1.1
  obtain ⟨S4, S5, e4, e5, k1⟩ := c_fin (S := xup S1 4 0 3 (nI (a 3 - q))) (S1 := S1) (a := sT a 3 (a 3 - q)) (sT_cut hA) g1 (fun t o h => by
      simp only [xup, xua]
      rw [if_neg (fun q => h ⟨q.2, by omega⟩)]) (fun j hj => by rw [xup_o (by decide), sT_o (by omega) (by omega)]; exact hv1.1 j hj) (by rw [xup_s, if_pos rfl, e3]) (fun j hj => by
      rw [e3] at hj
      rw [xup_o (by decide), sT_o (by omega) (by omega)]; exact hv1.2.2.1 j (by omega)) (fun k hk => sT_z (by omega))
  refine ⟨S5, ?_, k1⟩
  have h5 := k1.1.1.2.1
  rw [e3] at h5
  unfold f6_cut
  rw [if_neg n1, if_pos n2, hC.1.1.2.1, if_pos hle, e1, xbV_eq, hv1.2.1, hsub, xlet_eq, e4, xbV_eq, e5, xbV_eq, h5]
theorem c_cut_no {S : xSt} {a : Nat → Nat} (hC : QI S a) {q : Nat} (q1 : 1 ≤ q) (q2 : q ≤ 240) (cq : ¬ q ≤ a 3) : f6_cut S (nI q) = some (S, some (.int (-5))) := by
  have n1 : ¬ nI q < 1 := Int32.not_lt.mpr (nI_le (a := 1) q1 (by omega))
  have n2 : nI q ≤ 240 := nI_le (b := 240) q2 (by decide)
  have hle : ¬ nI q ≤ nI (a 3) := nI_ge (by omega) (by omega)
  unfold f6_cut
  rw [if_neg n1, if_pos n2, hC.1.1.2.1, if_neg hle]
def apn (a : Nat → Nat) (q : Nat) (sp : Nat → Nat) : Nat → Nat := fun i => if 250 ≤ i then 0 else if i = 3 then a 3 + q else if 10 + a 3 ≤ i ∧ i < 10 + a 3 + q then sp (i - (10 + a 3)) else a i
theorem apn_z {a sp : Nat → Nat} {q i : Nat} (h : 250 ≤ i) : apn a q sp i = 0 := if_pos h
theorem apn_3 (a : Nat → Nat) (q : Nat) (sp : Nat → Nat) : apn a q sp 3 = a 3 + q := rfl
theorem apn_s {a sp : Nat → Nat} {q j : Nat} (h : j < q) (h2 : a 3 + q ≤ 240) : apn a q sp (10 + a 3 + j) = sp j := by
  show (if 250 ≤ 10 + a 3 + j then 0 else if 10 + a 3 + j = 3 then a 3 + q else if 10 + a 3 ≤ 10 + a 3 + j ∧ 10 + a 3 + j < 10 + a 3 + q then sp (10 + a 3 + j - (10 + a 3)) else a (10 + a 3 + j)) = sp j
  rw [if_neg (by omega), if_neg (by omega), if_pos (by omega), show 10 + a 3 + j - (10 + a 3) = j by omega]
theorem apn_o {a sp : Nat → Nat} {q i : Nat} (h : i < 250) (h3 : ¬ i = 3) (h2 : ¬ (10 + a 3 ≤ i ∧ i < 10 + a 3 + q)) : apn a q sp i = a i := by
  show (if 250 ≤ i then 0 else if i = 3 then a 3 + q else if 10 + a 3 ≤ i ∧ i < 10 + a 3 + q then sp (i - (10 + a 3)) else a i) = a i
  rw [if_neg (by omega), if_neg h3, if_neg h2]
theorem apn_AV {a sp : Nat → Nat} {q : Nat} (hA : AV a) (h : a 3 + q ≤ 240) (hs : ∀ j, j < q → sp j < 8) : AV (apn a q sp) := by
  obtain ⟨a1, a2, a3, a4, a5, a6, a7⟩ := hA
  unfold AV
  rw [apn_3, apn_o (i := 0) (by decide) (by decide) (by omega), apn_o (i := 1) (by decide) (by decide) (by omega), apn_o (i := 2) (by decide) (by decide) (by omega)]
  refine ⟨a1, a2, a3, h, fun j hj => ?_, fun k hk => by rw [apn_z (by omega)]; decide, fun k _ _ => apn_z (by omega)⟩
  by_cases c : j < a 3
  · rw [apn_o (by omega) (by omega) (by omega)]; exact a5 j c
  · obtain ⟨i, hi⟩ : ∃ i, 10 + j = 10 + a 3 + i := ⟨j - a 3, by omega⟩
    rw [hi, apn_s (by omega) h]
    exact hs i (by omega)
/-- what both hold when the signs stand -/
theorem c_add {S : xSt} {a : Nat → Nat} (hA : AV a) (hC : QI S a) {s q : Nat} (s2 : s < 8) (q1 : 1 ≤ q) (cq : a 3 + q ≤ 240) : ∃ S', f6_add S (nI s) (nI q) = some (S', some (.int (nI (a 3 + q)))) ∧ QI S' (apn a q (fun _ => s)) := by
  have hn := hA.2.2.2.1
  have x0 : ¬ nI s < 0 := Int32.not_lt.mpr (nI_pos' (by omega))
  have x8 : ¬ ((8 : Int32) ≤ nI s) := nI_ge (a := s) (b := 8) (by omega) (by omega)
  have y1 : ¬ nI q < 1 := Int32.not_lt.mpr (nI_le (a := 1) q1 (by omega))
  have y2 : nI q ≤ 240 := nI_le (b := 240) (by omega) (by decide)
  have hle : nI (a 3 + q) ≤ 240 := nI_le (a := a 3 + q) (b := 240) cq (by decide)
  have e3 := apn_3 a q (fun _ => s)
  have hv := apn_AV (sp := fun _ => s) hA cq (fun j hj => by show s < 8; omega)
  obtain ⟨S1, e1, g1⟩ := c_record hA hC.1
  have hv1 := g1.1
  have hfill : ffill4 S1 23 0 240 (nI (a 3)) (nI (a 3 + q)) (nI s) = some (xua S1 23 0 (fun j => if a 3 ≤ j ∧ j < a 3 + q then nI s else S1 23 0 j), none) := by
    unfold ffill4 xne
    rw [if_pos ⟨nI_le (by omega) (by omega), nI_pos' (by omega), nI_le (by omega) (by decide)⟩, nI_clamp (by omega), nI_clamp (by omega)]
  obtain ⟨S2, hS2⟩ : ∃ S2, S2 = xua S1 23 0 (fun j => if a 3 ≤ j ∧ j < a 3 + q then nI s else S1 23 0 j) := ⟨_, rfl⟩
  have o4 : S2 4 = S1 4 := by rw [hS2, xua_o (by decide)]
  obtain ⟨S3, hS3⟩ : ∃ S3, S3 = xup S2 4 0 3 (nI (a 3 + q)) := ⟨_, rfl⟩
  have hF : ∀ t o, ¬ (o = 0 ∧ (t = 4 ∨ t = 23)) → S3 t o = S1 t o := fun t o h => by
    rw [hS3, hS2]
    simp only [xup, xua]
    rw [if_neg (fun q => h ⟨q.2, by omega⟩), if_neg (fun q => h ⟨q.2, by omega⟩)]
  obtain ⟨S4, S5, e4, e5, k1⟩ := c_fin (S := S3) (S1 := S1) (a := apn a q (fun _ => s)) hv g1 (fun t o ht => hF t o (by omega)) (fun i hi => by
      rw [hF 22 0 (by omega), apn_o (by omega) (by omega) (by omega)]; exact hv1.1 i hi) (by rw [hS3, xup_s, if_pos rfl, e3]) (fun j hj => by
      rw [e3] at hj
      rw [hS3, xup_o (by decide), hS2, xua_s]
      by_cases c : a 3 ≤ j
      · obtain ⟨i, hi⟩ : ∃ i, j = a 3 + i := ⟨j - a 3, by omega⟩
        subst hi
        rw [if_pos (by omega), show 10 + (a 3 + i) = 10 + a 3 + i by omega, apn_s (by omega) cq]
      · rw [if_neg (by omega), apn_o (by omega) (by omega) (by omega)]; exact hv1.2.2.1 j (by omega)) (fun k hk => apn_z (by omega))
  refine ⟨S5, ?_, k1⟩
  have h5 := k1.1.1.2.1
  rw [e3] at h5
  unfold f6_add
  rw [if_neg x0, if_neg x8, if_neg y1, if_pos y2, hC.1.1.2.1, nI_add, if_pos hle, e1, xbV_eq, hv1.2.1, nI_add, hfill, ← hS2, xbV_eq, o4, hv1.2.1, nI_add, xlet_eq, ← hS3, e4, xbV_eq, e5, xbV_eq, h5]
theorem lm_cong {w : wS} {m m' : Nat → Nat} {n : Nat} (h : ∀ j, j < n → m j = m' j) : ∀ (d x q : Nat), lm w m n d x q = lm w m' n d x q
  | 0, _, _ => rfl
  | d + 1, x, q => by
    rw [lm, lm]
    by_cases c : q < n
    · rw [h q c, lm_cong h d]
    · rw [if_neg (fun p => c p.1), if_neg (fun p => c p.1)]
theorem wst_cong {w : wS} {m m' : Nat → Nat} {n full po wi p : Nat} (h : ∀ j, j < n → m j = m' j) (hp : p < n) : wst m n full po wi w p = wst m' n full po wi w p := by
  unfold wst
  rw [h p hp, lm_cong h]
  by_cases c : (lm w m' n n (m' p) (p + 1)).2 < n
  · simp only [if_pos c, h _ c]
  · simp only [if_neg c]
theorem wr_cong {m m' : Nat → Nat} {n full po wi : Nat} (h : ∀ j, j < n → m j = m' j) : ∀ (d : Nat) (w : wS) (p : Nat), wr m n full po wi d w p = wr m' n full po wi d w p
  | 0, _, _ => rfl
  | d + 1, w, p => by
    rw [wr, wr]
    by_cases c : p < n
    · rw [if_pos c, if_pos c, wst_cong h c, wr_cong h d]
      unfold wnx
      rw [h p c, lm_cong h]
    · rw [if_neg c, if_neg c]
theorem wfin_cong {m m' : Nat → Nat} {n full po wi : Nat} (h : ∀ j, j < n → m j = m' j) : wfin m n full po wi = wfin m' n full po wi := by
  unfold wfin
  rw [wr_cong h]
def pT (a : Nat → Nat) (k b : Nat) : Nat → Nat := fun i => if i = 250 + k then a i ^^^ b else a i
theorem pT_s (a : Nat → Nat) (k b : Nat) : pT a k b (250 + k) = a (250 + k) ^^^ b := if_pos rfl
theorem pT_o {a : Nat → Nat} {k b i : Nat} (h : ¬ i = 250 + k) : pT a k b i = a i := if_neg h
theorem pT_AV {a : Nat → Nat} {k b : Nat} (hA : AV a) (hk : k < 281) (hb : b < 512) : AV (pT a k b) := by
  obtain ⟨a1, a2, a3, a4, a5, a6, a7⟩ := hA
  unfold AV
  rw [pT_o (i := 0) (by omega), pT_o (i := 1) (by omega), pT_o (i := 2) (by omega), pT_o (i := 3) (by omega)]
  refine ⟨a1, a2, a3, a4, fun j hj => by rw [pT_o (by omega)]; exact a5 j hj, fun j hj => ?_, fun j h1 h2 => by rw [pT_o (by omega)]; exact a7 j h1 h2⟩
  by_cases c : j = k
  · rw [c, pT_s]; exact (nI_xor (a6 k hk) hb).2
  · rw [pT_o (by omega)]; exact a6 j hj
theorem pT_wa {a : Nat → Nat} {k b : Nat} (hA : AV a) : wa (pT a k b) = wa a := by
  have h3 := hA.2.2.2.1
  unfold wa
  rw [pT_o (i := 0) (by omega), pT_o (i := 1) (by omega), pT_o (i := 2) (by omega), pT_o (i := 3) (by omega)]
  exact wfin_cong (fun j hj => pT_o (by omega))
theorem c_spoil {S : xSt} {a : Nat → Nat} (hA : AV a) (hC : QI S a) {k b : Nat} (hk : k < (wa a) 4 0) (b1 : 1 ≤ b) (b2 : b ≤ 511) : ∃ S', f6_spoil S (nI k) (nI b) = some (S', some (.int (nI (ca (pT a k b) k)))) ∧ QI S' (pT a k b) := by
  have hn := hA.2.2.2.1
  have hc := (AV_wfin hA).2.2.2.1
  have y1 : ¬ nI b < 1 := Int32.not_lt.mpr (nI_le (a := 1) b1 (by omega))
  have y2 : nI b ≤ 511 := nI_le (b := 511) b2 (by decide)
  have hv := pT_AV (b := b) hA (show k < 281 by omega) (by omega)
  have hw := pT_wa (k := k) (b := b) hA
  have hx : nI (a (250 + k)) ^^^ nI b = nI (pT a k b (250 + k)) := by
    rw [pT_s]
    exact (nI_xor (hA.2.2.2.2.2.1 k (by omega)) (by omega)).1
  obtain ⟨S1, e1, g1⟩ := c_record hA hC.1
  have hv1 := g1.1
  obtain ⟨S2, hS2⟩ : ∃ S2, S2 = xup S1 24 0 k (nI (pT a k b (250 + k))) := ⟨_, rfl⟩
  have o2 : ∀ t, ¬ t = 24 → S2 t = S1 t := fun t h => by rw [hS2, xup_o h]
  have hcv : CV S2 0 (pT a k b) := by
    refine ⟨fun i hi => ?_, ?_, fun j hj => ?_, fun j hj => ?_⟩
    · rw [o2 22 (by decide), pT_o (by omega)]; exact hv1.1 i hi
    · rw [o2 4 (by decide), pT_o (by omega)]; exact hv1.2.1
    · rw [pT_o (by omega)] at hj
      rw [o2 23 (by decide), pT_o (by omega)]; exact hv1.2.2.1 j hj
    · rw [hS2, xup_s]
      by_cases cj : j = k
      · rw [if_pos cj, cj]
      · rw [if_neg cj, pT_o (by omega)]; exact hv1.2.2.2 j hj
  have hJ : QJ S2 (pT a k b) := QJ_q g1 (fun t o h => by
    rw [hS2]
    simp only [xup, xua]
    rw [if_neg (fun q => h ⟨q.2, by omega⟩)]) hcv
  obtain ⟨S3, e3, q1⟩ := QJ_refresh hv hJ
  have h5 := q1.2.2.1 k (by rw [hw]; exact hk)
  refine ⟨S3, ?_, q1⟩
  unfold f6_spoil
  rw [q_isCode hA hC (by omega), xbI_eq, if_pos hk, if_neg (by decide), if_neg y1, if_pos y2, e1, xbV_eq, xat_ok (by omega) (by decide), xat_ok (by omega) (by decide), hv1.2.2.2 k (by omega), hx, xlet_eq, ← hS2, e3, xbV_eq, xat_ok (by omega) (by decide), h5]
theorem c_spoil_no {S : xSt} {a : Nat → Nat} (hA : AV a) (hC : QI S a) (y : Int32) : f6_spoil S (nI ((wa a) 4 0)) y = some (S, some (.int (-1))) := by
  have hc := (AV_wfin hA).2.2.2.1
  unfold f6_spoil
  rw [q_isCode hA hC (by omega), xbI_eq, if_neg (Nat.lt_irrefl _), if_pos rfl]
