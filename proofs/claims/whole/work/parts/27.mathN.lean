/-! the reference reads -/
def FR (S S' : xSt) : Prop := (∀ t o, ¬ (o = 0 ∧ (t = 7 ∨ (38 ≤ t ∧ t ≤ 41) ∨ t = 50)) → S' t o = S t o) ∧ ∀ i, ¬ i = 11 → ¬ i = 24 → ¬ i = 25 → ¬ i = 26 → ¬ i = 27 → S' 7 0 i = S 7 0 i
theorem FR.rf {S : xSt} : FR S S := ⟨fun _ _ _ => rfl, fun _ _ _ _ _ _ => rfl⟩
theorem FR.tr {S S' S'' : xSt} (h : FR S S') (h2 : FR S' S'') : FR S S'' := ⟨fun t o hp => (h2.1 t o hp).trans (h.1 t o hp), fun i a b c d e => (h2.2 i a b c d e).trans (h.2 i a b c d e)⟩
theorem FR.up {S S' : xSt} (h : FR S S') {t i : Nat} {v : Int32} (hp : (38 ≤ t ∧ t ≤ 41) ∨ t = 50) : FR S (xup S' t 0 i v) := by
  refine ⟨fun t' o' hp' => ?_, fun j a b c d e => ?_⟩
  · by_cases he : t' = t ∧ o' = 0
    · exact absurd ⟨he.2, Or.inr (by omega)⟩ hp'
    · simp only [xup, xua]; rw [if_neg he]; exact h.1 t' o' hp'
  · rw [xup_o (by omega)]; exact h.2 j a b c d e
theorem FR.up7 {S S' : xSt} (h : FR S S') {i : Nat} {v : Int32} (hp : i = 11 ∨ i = 24 ∨ i = 25 ∨ i = 26 ∨ i = 27) : FR S (xup S' 7 0 i v) := by
  refine ⟨fun t' o' hp' => ?_, fun j a b c d e => ?_⟩
  · by_cases he : t' = 7 ∧ o' = 0
    · exact absurd ⟨he.2, Or.inl he.1⟩ hp'
    · simp only [xup, xua]; rw [if_neg he]; exact h.1 t' o' hp'
  · rw [xup_s, if_neg (by omega)]; exact h.2 j a b c d e
/-- the reference's book as reading has it -/
def MK (S : xSt) (r : wS) : Prop := S 7 0 11 = nI (r 0 0) ∧ BM S 10 ∧ ∀ k, 10 ≤ k → k < r 0 0 → S 38 0 k = nI (r 11 k) ∧ S 39 0 k = nI (r 4 (r 1 k + r 2 k - 1)) ∧ S 40 0 k = nI (r 4 (r 1 k)) ∧ S 41 0 k = nI (r 2 k)
def ML (S : xSt) (r : wS) : Prop := S 7 0 24 = nI (r 3 0) ∧ S 7 0 27 = nI (r 5 0) ∧ ∀ i, i < r 3 0 → S 50 0 i = nI (r 4 i)
/-- an entry spells T, from its end -/
def Sp (S : xSt) (T : Nat → Nat) : Nat → Nat → Prop
  | 0, _ => True
  | l + 1, a => a < 512 ∧ S 39 0 a = nI (T l) ∧ T l < 8 ∧ (l = 0 ∨ ∃ h, S 38 0 a = nI h ∧ Sp S T l h)
theorem Sp_cong {S S' : xSt} {T T' : Nat → Nat} (h38 : S' 38 = S 38) (h39 : S' 39 = S 39) : ∀ (l a : Nat), (∀ j, j < l → T' j = T j) → Sp S T l a → Sp S' T' l a
  | 0, _, _, _ => trivial
  | l + 1, a, hT, ⟨h1, h2, h3, h4⟩ => by
    refine ⟨h1, by rw [h39, hT l (by omega)]; exact h2, by rw [hT l (by omega)]; exact h3, ?_⟩
    rcases h4 with h4 | ⟨h, h5, h6⟩
    · exact Or.inl h4
    · exact Or.inr ⟨h, by rw [h38]; exact h5, Sp_cong h38 h39 l h (fun j hj => hT j (by omega)) h6⟩
theorem Sp_of {S : xSt} {r : wS} {full i : Nat} (hK : MK S r) (hI : RI r full i) (hf : full ≤ 512) : ∀ (l x : Nat), lenf r x = l → x < r 0 0 → ¬ (x = 8 ∨ x = 9) → Sp S (chf r x) l x
  | 0, _, _, _, _ => trivial
  | l + 1, x, h1, h2, h3 => by
    have hI0 := hI
    obtain ⟨⟨i1, i1'⟩, i2, i3, i4, i5, i6, -⟩ := hI
    unfold lenf at h1
    by_cases hx : x < 8
    · rw [if_pos hx] at h1
      have hl : l = 0 := by omega
      subst hl
      refine ⟨by omega, ?_, ?_, Or.inl rfl⟩
      · rw [(hK.2.1 x (by omega)).2.1, if_pos hx]; unfold chf; rw [if_pos hx]
      · unfold chf; rw [if_pos hx]; exact hx
    · rw [if_neg hx] at h1
      obtain ⟨g1, g2, g3, g4, g5, g6, g7⟩ := i5 x (by omega) h2
      obtain ⟨k1, k2, k3, k4⟩ := hK.2.2 x (by omega) h2
      have hc : ∀ j, chf r x j = r 4 (r 1 x + j) := fun j => by unfold chf; rw [if_neg hx]
      refine ⟨by omega, ?_, ?_, Or.inr ⟨r 11 x, k1, ?_⟩⟩
      · rw [k2, hc, h1]; congr 2
      · rw [hc]; exact i6 _ (by omega)
      · refine Sp_cong rfl rfl l (r 11 x) (fun j hj => ?_) (Sp_of hK hI0 hf l (r 11 x) (by omega) (by omega) g5)
        rw [hc, g7 j (by omega)]
theorem nar_byte {n : Nat} (h : n < 8) : vp_nar .byte (nI n).toInt8.toInt32 = nI n := by
  have key : ∀ n, n < 8 → vp_nar .byte (nI n).toInt8.toInt32 = nI n := by decide
  exact key n h
theorem f7_say_loop {g : Nat} {T : Nat → Nat} {e : Int32} : ∀ (l f : Nat) (a : Int32) (S : xSt), l < f → S 7 0 24 = nI g → g + l ≤ 48000 → (l = 0 ∨ ∃ h, a = nI h ∧ Sp S T l h) →
    ∃ S', f7_say_L16 f S e a (nI (g + l) + (-1)) = f7_say_J50 S' e ∧ (∀ t, ¬ t = 50 → S' t = S t) ∧ (∀ j, j < l → S' 50 0 (g + j) = nI (T j)) ∧ (∀ j, ¬ (g ≤ j ∧ j < g + l) → S' 50 0 j = S 50 0 j) ∧ FR S S'
  | l, 0, _, _, h, _, _, _ => absurd h (Nat.not_lt_zero l)
  | 0, f + 1, a, S, h1, h2, h3, h4 => by
    refine ⟨S, ?_, fun _ _ => rfl, fun j hj => absurd hj (Nat.not_lt_zero j), fun _ _ => rfl, FR.rf⟩
    show b7_say_L16 (f7_say_L16 f) S e a (nI (g + 0) + (-1)) = _
    unfold b7_say_L16
    have hlt : nI (g + 0) + (-1) < S 7 0 24 := by
      rw [h2, Nat.add_zero]
      cases g with
      | zero => decide
      | succ g => rw [pk_m1]; exact nI_lt (by omega) (by omega)
    rw [if_pos hlt]
  | l + 1, f + 1, a, S, h1, h2, h3, h4 => by
    obtain ⟨h, rfl, hs⟩ := h4.resolve_left (by omega)
    obtain ⟨s1, s2, s3, s4⟩ := hs
    show ∃ S', b7_say_L16 (f7_say_L16 f) S e (nI h) (nI (g + (l + 1)) + (-1)) = _ ∧ _
    have e1 : nI (g + (l + 1)) + (-1) = nI (g + l) := pk_m1 (g + l)
    rw [e1]
    have hin := f7_say_loop (g := g) (T := T) (e := e) l f (S 38 0 h) (xup S 50 0 (g + l) (nI (T l))) (by omega) (by rw [xup_o (by decide)]; exact h2) (by omega) (by
      rcases s4 with s4 | ⟨h', s5, s6⟩
      · exact Or.inl s4
      · exact Or.inr ⟨h', s5, Sp_cong (xup_o (by decide)) (xup_o (by decide)) l h' (fun _ _ => rfl) s6⟩)
    obtain ⟨S', q1, q2, q3, q4, q5⟩ := hin
    refine ⟨S', ?_, fun t ht => by rw [q2 t ht, xup_o ht], ?_, ?_, (FR.rf.up (Or.inr rfl)).tr q5⟩
    · unfold b7_say_L16
      rw [h2, if_neg (nI_nlt (by omega) (by omega)), xat_ok s1 (by decide), s2, xat_ok (by omega) (by decide), nar_byte s3, xlet_eq, xat_ok s1 (by decide), xup_o (by decide)]
      exact q1
    · intro j hj
      by_cases c : j = l
      · subst c
        rw [q4 _ (by omega), xup_s, if_pos rfl]
      · exact q3 j (by omega)
    · intro j hj
      rw [q4 j (by omega), xup_s, if_neg (by omega)]
theorem f7_say_ok {S : xSt} {g l c : Nat} {T : Nat → Nat} (h24 : S 7 0 24 = nI g) (hc : c < 512) (hl : 1 ≤ l) (h41 : S 41 0 c = nI l) (hg : g + l ≤ 48000) (hs : Sp S T l c) :
    ∃ S', f7_say S (nI c) = some (S', none) ∧ S' 7 0 24 = nI (g + l) ∧ (∀ i, ¬ i = 24 → S' 7 0 i = S 7 0 i) ∧ (∀ t, ¬ t = 7 → ¬ t = 50 → S' t = S t) ∧ (∀ j, j < l → S' 50 0 (g + j) = nI (T j)) ∧ (∀ j, j < g → S' 50 0 j = S 50 0 j) ∧ FR S S' := by
  obtain ⟨S', q1, q2, q3, q4, q5⟩ := f7_say_loop (g := g) (T := T) (e := nI c) l xFU (nI c) S (by show l < 1000000; omega) h24 hg (Or.inr ⟨c, rfl, hs⟩)
  refine ⟨xup S' 7 0 24 (nI (g + l)), ?_, by rw [xup_s, if_pos rfl], ?_, ?_, ?_, ?_, q5.up7 (by omega)⟩
  · unfold f7_say
    rw [xat_ok hc (by decide), h24, h41, nI_add]
    have e1 : nI (g + l) - 1 = nI (g + l) + (-1) := by
      obtain ⟨z, hz⟩ : ∃ z, g + l = z + 1 := ⟨g + l - 1, by omega⟩
      rw [hz, pk_m1]
      exact pk_sub (a := z + 1) (b := 1) (by omega)
    rw [e1, q1]
    unfold f7_say_J50
    rw [xat_ok hc (by decide), q2 7 (by decide), q2 41 (by decide), h24, h41, nI_add, xlet_eq]
  · intro i hi
    rw [xup_s, if_neg hi, q2 7 (by decide)]
  · intro t h7 h50
    rw [xup_o h7, q2 t h50]
  · intro j hj
    rw [xup_o (by decide)]
    exact q3 j hj
  · intro j hj
    rw [xup_o (by decide)]
    exact q4 j (by omega)
theorem f7_enter_raw {S : xSt} {e x : Nat} {v : Int32} (h11 : S 7 0 11 = nI e) (he : e < 512) (hx : x < 512) :
    f7_enterPhrase S (nI x) v = some (xup (xup (xup (xup (xup S 38 0 e (nI x)) 39 0 e v) 40 0 e (S 40 0 x)) 41 0 e (S 41 0 x + 1)) 7 0 11 (nI e + 1), none) := by
  unfold f7_enterPhrase
  simp (disch := decide) only [xlet_eq, xup_o, xup_s, h11, xat_ok (i := e) (n := 512) he (by decide), xat_ok (i := x) (n := 512) hx (by decide)]
theorem f7_in_ok (S : xSt) (a b c : Int32) : f7_in S a b c = some (S, some (.int (if b ≤ a ∧ a ≤ c then 1 else 0))) := by
  by_cases h1 : b ≤ a
  · have n1 : ¬ a < b := Int32.not_lt.mpr h1
    by_cases h2 : a ≤ c
    · have n2 : ¬ c < a := Int32.not_lt.mpr h2
      have e : f7_in S a b c = some (S, some (.int 1)) := by unfold f7_in; rw [if_neg n1, if_neg n2]; exact if_pos (by decide)
      rw [e, if_pos ⟨h1, h2⟩]
    · have n2 : c < a := Int32.not_le.mp h2
      have e : f7_in S a b c = some (S, some (.int 0)) := by unfold f7_in; rw [if_neg n1, if_pos n2]; exact if_pos (by decide)
      rw [e, if_neg (fun q => h2 q.2)]
  · have n1 : a < b := Int32.not_le.mp h1
    have e : f7_in S a b c = some (S, some (.int 0)) := by unfold f7_in; rw [if_pos n1]; exact if_pos (by decide)
    rw [e, if_neg (fun q => h1 q.1)]
