theorem sbs_pos (f : Nat → Nat) (k : Nat) (s : Nat × Nat) : ¬ (sbs f k s).1 = 0 := by
  unfold sbs
  by_cases c : s.1 = 0 ∨ f k < s.2
  · rw [if_pos c]; show ¬ 10 * (4 + k / 3) + k % 3 = 0; omega
  · rw [if_neg c]; exact fun q => c (Or.inl q)
theorem sbf_pos (f : Nat → Nat) : ∀ (d k : Nat) (s : Nat × Nat), ¬ (sbf f (d + 1) k s).1 = 0
  | 0, k, s => sbs_pos f k s
  | d + 1, k, s => sbf_pos f d (k + 1) (sbs f k s)
theorem sbo_pos (f : Nat → Nat) : ∀ (d w : Nat) (s : Nat × Nat), ¬ (sbo f (d + 1) w s).1 = 0
  | 0, w, s => sbf_pos f 2 (3 * w + 0) s
  | d + 1, w, s => sbo_pos f d (w + 1) (sbf f 3 (3 * w + 0) s)
theorem sbf_sok {T : wS} (hA : AI T) : ∀ (d k : Nat) (s : Nat × Nat), k + d ≤ 18 → sok s → sok (sbf (fT T) d k s)
  | 0, k, s, _, h => h
  | d + 1, k, s, e, h => sbf_sok hA d (k + 1) (sbs (fT T) k s) (by omega) (sbs_ok (by omega) (fT_le hA (by omega)) h)
theorem sbo_sok {T : wS} (hA : AI T) : ∀ (d w : Nat) (s : Nat × Nat), w + d ≤ 6 → sok s → sok (sbo (fT T) d w s)
  | 0, w, s, _, h => h
  | d + 1, w, s, e, h => sbo_sok hA d (w + 1) (sbf (fT T) 3 (3 * w + 0) s) (by omega) (sbf_sok hA 3 (3 * w + 0) s (by omega) h)
theorem div10 {a : Nat} (h : a < 100) : nI a / (10 : Int32) = nI (a / 10) ∧ nI a - nI (a / 10) * (10 : Int32) = nI (a % 10) := by
  have key : ∀ a, a < 100 → nI a / (10 : Int32) = nI (a / 10) ∧ nI a - nI (a / 10) * (10 : Int32) = nI (a % 10) := by decide
  exact key a h
theorem best_ok {T : wS} (hA : AI T) (x : Int32) : OKc (fun S => f6_best S x) (fun S => f7_best S x) T := by
  by_cases c : (0 : Int32) ≤ x ∧ x ≤ 2
  · have h0 : sok (0, 0) := ⟨by decide, by decide⟩
    have hpos : ¬ (sbo (fT T) 6 0 (0, 0)).1 = 0 := sbo_pos (fT T) 5 0 (0, 0)
    have hsok : sok (sbo (fT T) 6 0 (0, 0)) := sbo_sok hA 6 0 (0, 0) (by decide) h0
    have hO6 := fun (S : xSt) (hC : CI S T) => best6_out hA x 6 xFU 0 S (0, 0) rfl (by show 6 < 1000000; omega) hC h0
    have hO7 := fun (S : xSt) (hM : MI S T) => best7_out hA x 6 xFU 0 S (0, 0) rfl (by show 6 < 1000000; omega) hM h0
    generalize sbo (fT T) 6 0 (0, 0) = r at *
    have h6 : ∀ S, CI S T → ∃ S', f6_best S x = f6_best_J102 S' x (nI (r.1 / 10)) (nI (r.1 % 10)) (nI r.2) ∧ CI S' T ∧ Cfr S S' ∧ sok r := by
      intro S hC
      obtain ⟨S1, e1, g1, g2, g3⟩ := hO6 S hC
      refine ⟨S1, ?_, g1, g2, g3⟩
      unfold c1 c2 c3 at e1
      rw [if_neg hpos, if_neg hpos, if_neg hpos] at e1
      unfold f6_best
      rw [if_neg (Int32.not_lt.mpr c.1), if_pos c.2, xat_lit (v := 0) 0 rfl (by decide) (by decide)]
      have e3 : xSf 0 0 = nI (4 + 0) := by decide
      rw [e3]
      exact e1
    have h7 : ∀ S, MI S T → ∃ S', f7_best S x = f7_best_J82 S' x (nI r.1) (nI r.2) ∧ MI S' T ∧ Mfr S S' := by
      intro S hM
      obtain ⟨S1, e1, g1, g2, g3⟩ := hO7 S hM
      refine ⟨S1, ?_, g1, g2⟩
      unfold m1 m2 at e1
      rw [if_neg hpos, if_neg hpos] at e1
      unfold f7_best
      rw [f7_in_ok, xbI_eq, if_pos c, if_neg (by decide)]
      exact e1
    refine ⟨if x = 0 then nI (r.1 / 10) else if x = 1 then nI (r.1 % 10) else nI r.2, T, hA, fun S hC => ?_, fun S hM => ?_⟩
    · obtain ⟨S1, e1, g1, g2, g3⟩ := h6 S hC
      refine ⟨S1, e1.trans ?_, g1, g2⟩
      unfold f6_best_J102
      by_cases x0 : x = 0
      · rw [if_pos x0, if_pos x0]
      · rw [if_neg x0, if_neg x0]
        by_cases x1 : x = 1
        · rw [if_pos x1, if_pos x1]
        · rw [if_neg x1, if_neg x1]
    · obtain ⟨S1, e1, g1, g2⟩ := h7 S hM
      refine ⟨S1, e1.trans ?_, g1, g2⟩
      have hs : r.1 < 100 := hsok.1
      obtain ⟨d1, d2⟩ := div10 hs
      unfold f7_best_J82
      by_cases x0 : x = 0
      · rw [if_pos x0, if_pos x0, d1]; exact if_pos (by decide)
      · rw [if_neg x0, if_neg x0]
        by_cases x1 : x = 1
        · rw [if_pos x1, if_pos x1, d1, d2]; exact if_pos (by decide)
        · rw [if_neg x1, if_neg x1]
  · refine ⟨-2, T, hA, fun S hC => ⟨S, ?_, hC, Cfr.rf⟩, fun S hM => ⟨S, ?_, hM, Mfr.rf⟩⟩
    · show f6_best S x = _
      unfold f6_best
      by_cases x0 : x < 0
      · rw [if_pos x0]
      · rw [if_neg x0, if_neg (fun q => c ⟨Int32.not_lt.mp x0, q⟩)]
    · show f7_best S x = _
      unfold f7_best
      rw [f7_in_ok, xbI_eq, if_neg c, if_pos rfl]
