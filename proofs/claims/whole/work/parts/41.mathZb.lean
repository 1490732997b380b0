/-! tenderest -/
theorem u01 {x : Int32} (c : (0 : Int32) ≤ x ∧ x ≤ 1) : x = 0 ∨ x = 1 := by
  obtain ⟨j, j1, j2, rfl⟩ := arg_in (a := 0) (b := 1) (by decide) c.1 c.2 (by decide)
  have : j = 0 ∨ j = 1 := by omega
  rcases this with rfl | rfl
  · exact Or.inl rfl
  · exact Or.inr rfl
theorem n01 {x : Int32} (c : ¬ ((0 : Int32) ≤ x ∧ x ≤ 1)) : ¬ x = 0 ∧ ¬ x = 1 := by
  refine ⟨fun q => c ?_, fun q => c ?_⟩
  · rw [q]; decide
  · rw [q]; decide
theorem tenderest_ok {T : wS} (hA : AI T) (x : Int32) : OKc (fun S => f6_tenderest S x) (fun S => f7_tenderest S x) T := by
  by_cases c : (0 : Int32) ≤ x ∧ x ≤ 1
  · have h0 : tok (0, 0) := ⟨by decide, by decide⟩
    have hc1 := (AV_wfin hA.1).2.2.1
    have hc := (AV_wfin hA.1).2.2.2.1
    have hpos : ¬ (tsf (tf T) ((wa (T 0)) 4 0) 0 (0, 0)).1 = 0 := by
      obtain ⟨d, hd⟩ : ∃ d, (wa (T 0)) 4 0 = d + 1 := ⟨(wa (T 0)) 4 0 - 1, by omega⟩
      rw [hd]
      exact tsf_pos (tf T) d 0 (0, 0)
    have hO6 := fun (S : xSt) (hC : CI S T) => tend6 hA x ((wa (T 0)) 4 0) xFU 0 S (0, 0) (by omega) (by show _ < 1000000; omega) hC h0
    have hO7 := fun (S : xSt) (hM : MI S T) (hMC : MC S (wa (T 0))) => tend7 hA x ((wa (T 0)) 4 0) xFU 0 S (0, 0) (by omega) (by show _ < 1000000; omega) hM hMC h0
    generalize tsf (tf T) ((wa (T 0)) 4 0) 0 (0, 0) = r at *
    have a1 : t1 (0, 0) = 0 := rfl
    have a2 : t2 (0, 0) = 1073741824 := rfl
    have b1 : u1 (0, 0) = -6 := rfl
    have b2 : u2 (0, 0) = 0 := rfl
    have ex := u01 c
    refine ⟨if x = 0 then nI (r.1 - 1) else nI r.2, T, hA, fun S hC => ?_, fun S hM => ?_⟩
    · obtain ⟨S1, e1, g1, g2⟩ := hO6 S hC
      refine ⟨S1, ?_, g1, g2⟩
      show f6_tenderest S x = _
      rw [a1, a2, nI_0] at e1
      have hJ : f6_tenderest S x = f6_tenderest_L20 xFU S x 0 1073741824 0 := by
        unfold f6_tenderest f6_tenderest_J12
        rcases ex with rfl | rfl
        · rw [if_pos rfl]
        · rw [if_neg (by decide), if_pos rfl]
      rw [hJ, e1]
      unfold t1 t2 f6_tenderest_J62
      rw [if_neg hpos, if_neg hpos]
      by_cases x0 : x = 0
      · rw [if_pos x0, if_pos x0]
      · rw [if_neg x0, if_neg x0]
    · obtain ⟨S0, e0, g0, g1, g2, g3⟩ := now_ok hA.1 hM
      obtain ⟨S1, e1, k1, k2⟩ := hO7 S0 g2 g1
      refine ⟨S1, ?_, k1, (FM_Mfr g3).tr k2⟩
      show f7_tenderest S x = _
      rw [b1, b2, nI_0] at e1
      unfold f7_tenderest
      rw [f7_in_ok, xbI_eq, if_pos c, if_neg (by decide), e0, xbV_eq, e1]
      unfold u1 u2 f7_tenderest_J65
      rw [if_neg hpos, if_neg hpos]
      by_cases x0 : x = 0
      · rw [if_pos x0, if_pos x0]
      · rw [if_neg x0, if_neg x0]
  · obtain ⟨n0, n1⟩ := n01 c
    refine ⟨-2, T, hA, fun S hC => ⟨S, ?_, hC, Cfr.rf⟩, fun S hM => ⟨S, ?_, hM, Mfr.rf⟩⟩
    · show f6_tenderest S x = _
      unfold f6_tenderest
      rw [if_neg n0, if_neg n1]
    · show f7_tenderest S x = _
      unfold f7_tenderest
      rw [f7_in_ok, xbI_eq, if_neg c, if_pos rfl]
/-! another state now -/
def wq (T : wS) (a : Nat → Nat) : wS := fun f => if f = 0 then a else T f
theorem wq_0 (T : wS) (a : Nat → Nat) : (wq T a) 0 = a := rfl
theorem wq_o {T : wS} {a : Nat → Nat} {f : Nat} (h : ¬ f = 0) : (wq T a) f = T f := if_neg h
theorem wq_1 (T : wS) (a : Nat → Nat) : (wq T a) 1 = T 1 := rfl
theorem wq_10 (T : wS) (a : Nat → Nat) : (wq T a) 10 = T 10 := rfl
theorem wq_2 (T : wS) (a : Nat → Nat) (j : Nat) : (wq T a) (2 + j) = T (2 + j) := if_neg (by omega)
theorem wq_8 (T : wS) (a : Nat → Nat) (j : Nat) : (wq T a) (8 + j) = T (8 + j) := if_neg (by omega)
theorem wq_AI {T : wS} {a : Nat → Nat} (hA : AI T) (h : AV a) : AI (wq T a) := by
  obtain ⟨a1, a2, a3, a4, a5, a6⟩ := hA
  unfold AI
  simp only [wq_0, wq_1, wq_10, wq_2, wq_8]
  exact ⟨h, a2, a3, a4, a5, a6⟩
theorem MI_q {S S' : xSt} {T : wS} {a : Nat → Nat} (h : MI S T) (h2 : S' 7 0 2 = S 7 0 2) (h6 : S' 7 0 6 = S 7 0 6) (ha : ∀ t, 34 ≤ t → t ≤ 37 → S' t 0 = S t 0) (hv : MV S' 33 0 a) : MI S' (wq T a) := by
  obtain ⟨m1, m2, m3, m4, m5, m6⟩ := h
  unfold MI
  simp only [wq_0, wq_1, wq_10, wq_2, wq_8]
  unfold MV at m3 m4 hv ⊢
  simp only [h2, h6, ha 34 (by decide) (by decide), ha 35 (by decide) (by decide), ha 36 (by decide) (by decide), ha 37 (by decide) (by decide)]
  exact ⟨hv, m2, m3, m4, m5, m6⟩
/-- all but what was written and read -/
def CJ (S : xSt) (T : wS) : Prop := CV S 0 (T 0) ∧ S 1 0 2 = nI (T 1 0) ∧ (∃ l, l < 6 ∧ S 1 0 1 = nI l ∧ ∀ j, j < T 1 0 → CV S (1 + (l + 7 + j - T 1 0) % 6) (T (2 + j))) ∧
  (∀ i, i < 2 → S 31 0 i = nI (T 1 (2 + i)) ∧ (T 1 (2 + i) = 1 → CV S (7 + i) (T (8 + i)))) ∧ S 2 0 4 = nI (T 1 1) ∧ (∀ j, j < T 1 1 → S 15 0 j = nI (T 10 j)) ∧ BS S 0 ∧ BS S 1
theorem CI_CJ {S : xSt} {T : wS} (h : CI S T) : CJ S T := by
  obtain ⟨c1, c2, c3, c4, c5, c6, c7, c8, c9⟩ := h
  exact ⟨c1, c2, c3, c4, c5, c6, c7, c8⟩
theorem CJ_CI {S : xSt} {T : wS} (h : CJ S T) (hD : DV S (T 0)) : CI S T := by
  obtain ⟨c1, c2, c3, c4, c5, c6, c7, c8⟩ := h
  exact ⟨c1, c2, c3, c4, c5, c6, c7, c8, hD⟩
theorem CV_fr {S S' : xSt} {o : Nat} {a : Nat → Nat} (h : CV S o a) (h4 : S' 4 o = S 4 o) (h22 : S' 22 o = S 22 o) (h23 : S' 23 o = S 23 o) (h24 : S' 24 o = S 24 o) : CV S' o a := by
  unfold CV at h ⊢
  simp only [h4, h22, h23, h24]
  exact h
theorem BS_fr {S S' : xSt} {o : Nat} (h : BS S o) (h10 : S' 10 o = S 10 o) (h11 : S' 11 o = S 11 o) (h12 : S' 12 o = S 12 o) : BS S' o := by
  unfold BS at h ⊢
  simp only [h10, h11, h12]
  exact h
theorem DV_fr {S S' : xSt} {a : Nat → Nat} (h : DV S a) (hF : ∀ t, t ∈ [0, 3, 5, 10, 11, 12, 13, 19, 20, 21, 25, 26, 27, 28, 29, 32] → S' t 0 = S t 0) : DV S' a := by
  unfold DV CF CE CB CC CR at h ⊢
  simp only [hF 0 (by decide), hF 3 (by decide), hF 5 (by decide), hF 10 (by decide), hF 11 (by decide), hF 12 (by decide), hF 13 (by decide), hF 19 (by decide), hF 20 (by decide), hF 21 (by decide), hF 25 (by decide), hF 26 (by decide), hF 27 (by decide), hF 28 (by decide), hF 29 (by decide), hF 32 (by decide)]
  exact h
theorem CJ_q {S S' : xSt} {T : wS} {a : Nat → Nat} (h : CJ S T) (hF : ∀ t o, ¬ (o = 0 ∧ (t = 4 ∨ t = 22 ∨ t = 23 ∨ t = 24)) → S' t o = S t o) (hv : CV S' 0 a) : CJ S' (wq T a) := by
  obtain ⟨c1, c2, ⟨l, c3, c4, c5⟩, c6, c7, c8, c9, c10⟩ := h
  have hg : ∀ o b, ¬ o = 0 → CV S o b → CV S' o b := fun o b ho hc => CV_fr hc (hF 4 o (by omega)) (hF 22 o (by omega)) (hF 23 o (by omega)) (hF 24 o (by omega))
  have hb : ∀ o, BS S o → BS S' o := fun o hc => BS_fr hc (hF 10 o (by omega)) (hF 11 o (by omega)) (hF 12 o (by omega))
  unfold CJ
  simp only [wq_0, wq_1, wq_10, wq_2, wq_8, hF 1 0 (by omega), hF 31 0 (by omega), hF 2 0 (by omega), hF 15 0 (by omega)]
  exact ⟨hv, c2, ⟨l, c3, c4, fun j hj => hg _ _ (by omega) (c5 j hj)⟩, fun i hi => ⟨(c6 i hi).1, fun q => hg _ _ (by omega) ((c6 i hi).2 q)⟩, c7, c8, hb 0 c9, hb 1 c10⟩
theorem CJ_refresh {S : xSt} {T : wS} (hA : AV (T 0)) (h : CJ S T) : ∃ S', f6_refresh S = some (S', none) ∧ CI S' T ∧ Cfr S S' ∧ ∀ t, (t = 1 ∨ t = 4) → S' t = S t := by
  obtain ⟨c1, c2, ⟨l, c3, c4, c5⟩, c6, c7, c8, c9, c10⟩ := h
  obtain ⟨S', e, g1, g2, g3⟩ := refresh_ok hA c1 c9
  have ho : ∀ t o, ¬ o = 0 → S' t o = S t o := fun t o h => g3 t o (by simp only [PD, Bool.and_eq_false_iff, decide_eq_false_iff_not]; exact Or.inl h)
  have ht : ∀ t, ¬ t ∈ [0, 5, 10, 11, 12, 13, 25, 26, 27, 28, 29, 32, 3, 19, 20, 21] → S' t = S t := fun t h => by
    funext o
    exact g3 t o (by simp only [PD, Bool.and_eq_false_iff, decide_eq_false_iff_not]; exact Or.inr h)
  have hg : ∀ o b, CV S o b → CV S' o b := fun o b hc => CV_fr hc (by rw [ht 4 (by decide)]) (by rw [ht 22 (by decide)]) (by rw [ht 23 (by decide)]) (by rw [ht 24 (by decide)])
  refine ⟨S', e, CJ_CI ?_ g1, fun t h => ht t ?_, fun t h => ht t ?_⟩
  · unfold CJ
    simp only [ht 1 (by decide), ht 31 (by decide), ht 2 (by decide), ht 15 (by decide)]
    exact ⟨hg _ _ c1, c2, ⟨l, c3, c4, fun j hj => hg _ _ (c5 j hj)⟩, fun i hi => ⟨(c6 i hi).1, fun q => hg _ _ ((c6 i hi).2 q)⟩, c7, c8, g2, BS_fr c10 (ho 10 1 (by decide)) (ho 11 1 (by decide)) (ho 12 1 (by decide))⟩
  · simp only [List.mem_cons, List.mem_nil_iff, or_false]
    omega
  · simp only [List.mem_cons, List.mem_nil_iff, or_false]
    omega
