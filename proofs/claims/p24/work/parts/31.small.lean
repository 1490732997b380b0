/-! the law's small methods -/
theorem QI_fr {S S' : xSt} {a : Nat → Nat} (h : QI S a) (hF : ∀ t, ¬ t = 33 → S' t = S t) : QI S' a := by
  unfold QI QJ CV DV CF CE CB CC CR BS at h ⊢
  simp only [hF 0 (by decide), hF 1 (by decide), hF 2 (by decide), hF 3 (by decide), hF 4 (by decide), hF 5 (by decide), hF 10 (by decide), hF 11 (by decide), hF 12 (by decide), hF 13 (by decide), hF 19 (by decide), hF 20 (by decide), hF 21 (by decide), hF 22 (by decide), hF 23 (by decide), hF 24 (by decide), hF 25 (by decide), hF 26 (by decide), hF 27 (by decide), hF 28 (by decide), hF 29 (by decide), hF 32 (by decide)]
  exact h
theorem cell_end (S : xSt) {L : Nat} {xs : Nat → Int32} {n K : Nat} (h1 : 1 ≤ n) (h2 : n < 2 ^ 30) (hK : K < 2 ^ 31) : ∃ v, v < n ∧ fW_cell_J28 L xs S (nI n) (nI K) = some (S, some (.int (nI v))) := by
  refine ⟨K % n, Nat.mod_lt _ h1, ?_⟩
  unfold fW_cell_J28 xne
  rw [if_pos (nI_ne0 h1 (by omega)), pk_rem hK h1 (by omega)]
theorem cell_ok (S : xSt) {L : Nat} (xs : Nat → Int32) (hL : L ≤ 260) {k n : Nat} (hk : k < 100000) (h1 : 1 ≤ n) (h2 : n < 2 ^ 30) : ∃ v, v < n ∧ fW_cell S L xs (nI k) (nI n) = some (S, some (.int (nI v))) := by
  unfold fW_cell
  by_cases c : L = 0
  · have e : nI k * 37 + 5 = nI (k * 37 + 5) := by rw [show (37 : Int32) = nI 37 from rfl, pk_mul, show (5 : Int32) = nI 5 from rfl, nI_add]
    rw [c, if_pos (show nI 0 = 0 from rfl), e]
    exact cell_end S h1 h2 (by omega)
  · have hl : 0 < L := by omega
    rw [if_neg (nI_ne0 hl (by omega)), pk_rem (by omega) hl (by omega)]
    unfold xne
    rw [if_pos (nI_ne0 hl (by omega)), xat_ok (Nat.mod_lt _ hl) (by omega), if_pos (by decide)]
    obtain ⟨j, hj, e⟩ := pk_andE (xs (k % L) >>> ((nI k - nI k / (7 : Int32) * (7 : Int32)) &&& 31)) (m := 4194303) 22 (by decide)
    rw [e]
    exact cell_end S h1 h2 (by have : j < 4194304 := hj; omega)
theorem bits_step (n : Nat) (S : xSt) {e w : Nat} (he1 : 1 ≤ e) (he : e < 2 ^ 30) (hw : w ≤ 9) : fW_bits_L2 (n + 1) S (nI e) (nI w) = if e - 1 < 2 ^ w then some (S, some (.int (nI w))) else fW_bits_L2 n S (nI e) (nI (w + 1)) := by
  show bW_bits_L2 (fW_bits_L2 n) S (nI e) (nI w) = _
  unfold bW_bits_L2
  have hp : 2 ^ w ≤ 512 := by
    have : 2 ^ w ≤ 2 ^ 9 := Nat.pow_le_pow_right (by decide) hw
    omega
  rw [show nI e - 1 = nI (e - 1) from pk_sub (b := 1) he1, shl_pow hw]
  by_cases c : e - 1 < 2 ^ w
  · rw [if_pos (nI_lt c (by omega)), if_pos c]
  · rw [if_neg (nI_nlt (by omega) (by omega)), if_neg c, nI_1]
theorem bits_ok (S : xSt) {e : Nat} (h1 : 1 ≤ e) (h2 : e ≤ 512) : fW_bits S (nI e) = some (S, some (.int (nI (wid e)))) := by
  unfold fW_bits
  show fW_bits_L2 (999994 + 1 + 1 + 1 + 1 + 1 + 1) S (nI e) (nI 4) = _
  have hb : e < 2 ^ 30 := by omega
  unfold wid
  rw [bits_step _ _ h1 hb (by decide)]
  by_cases c1 : e ≤ 16
  · rw [if_pos (show e - 1 < 2 ^ 4 by omega), if_pos c1]
  rw [if_neg (show ¬ e - 1 < 2 ^ 4 by omega), if_neg c1, bits_step _ _ h1 hb (by decide)]
  by_cases c2 : e ≤ 32
  · rw [if_pos (show e - 1 < 2 ^ (4 + 1) by omega), if_pos c2]
  rw [if_neg (show ¬ e - 1 < 2 ^ (4 + 1) by omega), if_neg c2, bits_step _ _ h1 hb (by decide)]
  by_cases c3 : e ≤ 64
  · rw [if_pos (show e - 1 < 2 ^ (4 + 1 + 1) by omega), if_pos c3]
  rw [if_neg (show ¬ e - 1 < 2 ^ (4 + 1 + 1) by omega), if_neg c3, bits_step _ _ h1 hb (by decide)]
  by_cases c4 : e ≤ 128
  · rw [if_pos (show e - 1 < 2 ^ (4 + 1 + 1 + 1) by omega), if_pos c4]
  rw [if_neg (show ¬ e - 1 < 2 ^ (4 + 1 + 1 + 1) by omega), if_neg c4, bits_step _ _ h1 hb (by decide)]
  by_cases c5 : e ≤ 256
  · rw [if_pos (show e - 1 < 2 ^ (4 + 1 + 1 + 1 + 1) by omega), if_pos c5]
  rw [if_neg (show ¬ e - 1 < 2 ^ (4 + 1 + 1 + 1 + 1) by omega), if_neg c5, bits_step _ _ h1 hb (by decide), if_pos (show e - 1 < 2 ^ (4 + 1 + 1 + 1 + 1 + 1) by omega)]
theorem x1 (S : xSt) : xne ((1 : Int32) &&& 1 = (1 : Int32)) (some (S, some (Value.int (1 : Int32)))) = some (S, some (Value.int 1)) := if_pos (by decide)
theorem x0 (S : xSt) : xne ((0 : Int32) &&& 1 = (0 : Int32)) (some (S, some (Value.int (0 : Int32)))) = some (S, some (Value.int 0)) := if_pos (by decide)
theorem alike_no {S : xSt} {F : Nat} {i1 i2 i3 i5 : Int32} (hF : 0 < F) : fW_isAlike_L32 F S i1 i2 i3 0 i5 = some (S, some (.int 0)) := by
  cases F with
  | zero => omega
  | succ F =>
    show bW_isAlike_L32 (fW_isAlike_L32 F) S i1 i2 i3 0 i5 = _
    unfold bW_isAlike_L32
    by_cases c : i3 ≤ i5
    · rw [if_pos c, x0]
    · rw [if_neg c, if_pos rfl, x0]
theorem alike_loop {S : xSt} {a : Nat → Nat} (hA : AV a) (h : QI S a) {one other many : Nat} (h1 : one + many ≤ a 3) (h2 : other + many ≤ a 3) : ∀ (d F k : Nat), k + d = many → d + 1 < F →
    ((∀ t, k ≤ t → t < many → mm a (one + t) = mm a (other + t)) → fW_isAlike_L32 F S (nI one) (nI other) (nI many) 1 (nI k) = some (S, some (.int 1))) ∧
    (¬ (∀ t, k ≤ t → t < many → mm a (one + t) = mm a (other + t)) → fW_isAlike_L32 F S (nI one) (nI other) (nI many) 1 (nI k) = some (S, some (.int 0)))
  | d, 0, _, _, h => absurd h (Nat.not_lt_zero _)
  | 0, F + 1, k, e, _ => by
    refine ⟨fun _ => ?_, fun q => absurd (fun t a b => absurd a (by omega)) q⟩
    have hn := hA.2.2.2.1
    show bW_isAlike_L32 (fW_isAlike_L32 F) S (nI one) (nI other) (nI many) 1 (nI k) = _
    unfold bW_isAlike_L32
    rw [if_pos (nI_le (by omega) (by omega)), x1]
  | d + 1, F + 1, k, e, hF => by
    have hn := hA.2.2.2.1
    obtain ⟨r1, r2⟩ := alike_loop hA h h1 h2 d F (k + 1) (by omega) (by omega)
    have a1 : mm a (one + k) < 8 := hA.2.2.2.2.1 (one + k) (by omega)
    have a2 : mm a (other + k) < 8 := hA.2.2.2.2.1 (other + k) (by omega)
    have key : fW_isAlike_L32 (F + 1) S (nI one) (nI other) (nI many) 1 (nI k) = if mm a (one + k) = mm a (other + k) then fW_isAlike_L32 F S (nI one) (nI other) (nI many) 1 (nI (k + 1)) else fW_isAlike_L32 F S (nI one) (nI other) (nI many) 0 (nI (k + 1)) := by
      show bW_isAlike_L32 (fW_isAlike_L32 F) S (nI one) (nI other) (nI many) 1 (nI k) = _
      unfold bW_isAlike_L32 fW_isAlike_J67
      rw [if_neg (nI_ge (by omega) (by omega)), if_neg (by decide), nI_add, nI_add, q_sign hA h (by omega), xbI_eq, q_sign hA h (by omega), xbI_eq, nI_1]
      by_cases c : mm a (one + k) = mm a (other + k)
      · rw [if_pos c, if_pos (congrArg nI c)]
      · rw [if_neg c, if_neg (fun q => c (nI_inj (by omega) (by omega) q))]
    rw [key]
    refine ⟨fun q => ?_, fun q => ?_⟩
    · rw [if_pos (q k (Nat.le_refl _) (by omega))]
      exact r1 (fun t b1 b2 => q t (by omega) b2)
    · by_cases c : mm a (one + k) = mm a (other + k)
      · rw [if_pos c]
        refine r2 (fun z => q (fun t b1 b2 => ?_))
        by_cases ct : t = k
        · rw [ct]; exact c
        · exact z t (by omega) b2
      · rw [if_neg c]
        exact alike_no (by omega)
theorem alike_start {S : xSt} {a : Nat → Nat} (hA : AV a) (h : QI S a) {one other many : Nat} (h1 : one + many ≤ a 3) (h2 : other + many ≤ a 3) : fW_isAlike S (nI one) (nI other) (nI many) = fW_isAlike_L32 xFU S (nI one) (nI other) (nI many) 1 (nI 0) := by
  have hn := hA.2.2.2.1
  unfold fW_isAlike fW_isAlike_J27
  rw [(q_count hA h).1, xbI_eq, nI_add, if_neg (nI_nlt h1 (by omega)), (q_count hA h).1, xbI_eq, nI_add, if_neg (nI_nlt h2 (by omega)), nI_0]
theorem alike_1 {S : xSt} {a : Nat → Nat} (hA : AV a) (h : QI S a) {one other many : Nat} (h1 : one + many ≤ a 3) (h2 : other + many ≤ a 3) (q : ∀ t, t < many → mm a (one + t) = mm a (other + t)) : fW_isAlike S (nI one) (nI other) (nI many) = some (S, some (.int 1)) := by
  have hn := hA.2.2.2.1
  rw [alike_start hA h h1 h2]
  exact (alike_loop hA h h1 h2 many xFU 0 (by omega) (by show many + 1 < 1000000; omega)).1 (fun t _ b => q t b)
theorem alike_0 {S : xSt} {a : Nat → Nat} (hA : AV a) (h : QI S a) {one other many : Nat} (h1 : one + many ≤ a 3) (h2 : other + many ≤ a 3) (q : ¬ ∀ t, t < many → mm a (one + t) = mm a (other + t)) : fW_isAlike S (nI one) (nI other) (nI many) = some (S, some (.int 0)) := by
  have hn := hA.2.2.2.1
  rw [alike_start hA h h1 h2]
  exact (alike_loop hA h h1 h2 many xFU 0 (by omega) (by show many + 1 < 1000000; omega)).2 (fun z => q (fun t b => z t (Nat.zero_le _) b))
