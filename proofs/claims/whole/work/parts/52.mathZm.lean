/-! put: longs (the wb_ rows began as the kit's rows for pasting) -/
theorem wb_tb (n : Nat) : (lN n).toBitVec = BitVec.ofNat 64 n := rfl
theorem wb_inj {a b : Int64} (h : a.toBitVec = b.toBitVec) : a = b := Int64.toBitVec_inj.mp h
theorem wb_tn {n : Nat} (h : n < 2 ^ 64) : (lN n).toBitVec.toNat = n := by rw [wb_tb, BitVec.toNat_ofNat, Nat.mod_eq_of_lt h]
theorem wb_of (x : Int64) : ∃ n, n < 2 ^ 64 ∧ x = lN n := ⟨x.toBitVec.toNat, x.toBitVec.isLt, wb_inj (by rw [wb_tb]; simp)⟩
theorem wb_cu : ∀ k, k < 64 → ((nI k).toInt64.toUInt64 &&& Int64.toUInt64 63) = UInt64.ofNat k := by decide +kernel
theorem wb_lt2 {a b : Nat} (h : a < b) : 2 ^ a < 2 ^ b := Nat.pow_lt_pow_right (by decide) h
theorem wb_shr {n k : Nat} (hn : n < 2 ^ 64) (hk : k < 64) : ((lN n).toUInt64 >>> ((nI k).toInt64.toUInt64 &&& Int64.toUInt64 63)).toInt64 = lN (n / 2 ^ k) := by
  rw [wb_cu k hk]
  apply wb_inj
  apply BitVec.eq_of_toNat_eq
  show ((lN n).toUInt64 >>> UInt64.ofNat k).toNat = (BitVec.ofNat 64 _).toNat
  have h1 : (UInt64.ofNat k).toNat = k := by
    show (BitVec.ofNat 64 k).toNat = k
    rw [BitVec.toNat_ofNat, Nat.mod_eq_of_lt (by omega)]
  have h2 : (lN n).toUInt64.toNat = n := wb_tn hn
  rw [UInt64.toNat_shiftRight, h1, h2, Nat.mod_eq_of_lt hk, Nat.shiftRight_eq_div_pow, BitVec.toNat_ofNat, Nat.mod_eq_of_lt (Nat.lt_of_le_of_lt (Nat.div_le_self _ _) hn)]
theorem wb_and {a b : Nat} (ha : a < 2 ^ 64) (hb : b < 2 ^ 64) : lN a &&& lN b = lN (a &&& b) := by
  apply wb_inj
  rw [Int64.toBitVec_and, wb_tb, wb_tb, wb_tb]
  apply BitVec.eq_of_toNat_eq
  rw [BitVec.toNat_and, BitVec.toNat_ofNat, BitVec.toNat_ofNat, BitVec.toNat_ofNat, Nat.mod_eq_of_lt ha, Nat.mod_eq_of_lt hb, Nat.mod_eq_of_lt (Nat.and_lt_two_pow _ hb)]
theorem wb_mask {n k : Nat} (hn : n < 2 ^ 64) (hk : k < 64) : lN n &&& lN (2 ^ k - 1) = lN (n % 2 ^ k) := by
  rw [wb_and hn (by have := wb_lt2 hk; omega), Nat.and_two_pow_sub_one_eq_mod]
theorem lo8 {u : Nat} (h : u < 2 ^ 64) : lN u &&& 255 = lN (u % 256) := wb_mask (k := 8) h (by decide)
theorem sh8 {u : Nat} (h : u < 2 ^ 64) : ((lN u).toUInt64 >>> ((8 : Int32).toInt64.toUInt64 &&& Int64.toUInt64 63)).toInt64 = lN (u / 256) := wb_shr (k := 8) h (by decide)
theorem lN_0 {u : Nat} (h : u < 2 ^ 64) : lg_cmp (lN u) 0 = 0 ↔ u = 0 := by
  constructor
  · intro q
    have h1 := (lg_cmp_le (lN u) 0).mp (by rw [q]; decide)
    have h2 := (lg_cmp_ge (lN u) 0).mp (by rw [q]; decide)
    have e : lN u = 0 := Int64.le_antisymm h1 h2
    have := congrArg (fun x => x.toBitVec.toNat) e
    simp only [wb_tn h] at this
    exact this
  · intro q
    rw [q]
    decide
theorem lN_33 {c : Nat} (h : c < 256) : lg_cmp (lN c) 33 < 0 ↔ c < 33 := by
  rw [lg_cmp_lt]
  exact lN_lt (b := 33) (by omega) (by decide)
theorem lN_126 {c : Nat} (h : c < 256) : lg_cmp (lN c) 126 ≤ 0 ↔ c ≤ 126 := by
  rw [lg_cmp_le]
  exact lN_le (b := 126) (by omega) (by decide)
/-- how many characters a number holds, 0 if it is none of them -/
def cc : Nat → Nat → Nat → Nat
  | 0, m, u => if u = 0 then m else 0
  | d + 1, m, u => if u % 256 = 0 then (if u = 0 then m else 0) else if u % 256 < 33 then 0 else if u % 256 ≤ 126 then cc d (m + 1) (u / 256) else 0
theorem cc_ok : ∀ (d m u : Nat), ¬ cc d m u = 0 → m ≤ cc d m u ∧ cc d m u ≤ m + d ∧ ∀ i, m + i < cc d m u → 33 ≤ u / 256 ^ i % 256 ∧ u / 256 ^ i % 256 ≤ 126
  | 0, m, u, h => by
    rw [cc] at h ⊢
    by_cases c : u = 0
    · rw [if_pos c]; exact ⟨Nat.le_refl _, by omega, fun i hi => by omega⟩
    · rw [if_neg c] at h; exact absurd rfl h
  | d + 1, m, u, h => by
    rw [cc] at h ⊢
    by_cases c1 : u % 256 = 0
    · rw [if_pos c1] at h ⊢
      by_cases c : u = 0
      · rw [if_pos c]; exact ⟨Nat.le_refl _, by omega, fun i hi => by omega⟩
      · rw [if_neg c] at h; exact absurd rfl h
    · rw [if_neg c1] at h ⊢
      by_cases c2 : u % 256 < 33
      · rw [if_pos c2] at h; exact absurd rfl h
      · rw [if_neg c2] at h ⊢
        by_cases c3 : u % 256 ≤ 126
        · rw [if_pos c3] at h ⊢
          obtain ⟨g1, g2, g3⟩ := cc_ok d (m + 1) (u / 256) h
          refine ⟨by omega, by omega, fun i hi => ?_⟩
          cases i with
          | zero => rw [Nat.pow_zero, Nat.div_one]; omega
          | succ i =>
            rw [Nat.pow_succ, Nat.mul_comm, ← Nat.div_div_eq_div_mul]
            exact g3 i (by omega)
        · rw [if_neg c3] at h; exact absurd rfl h
theorem chars6 (S : xSt) : ∀ (d F m u : Nat), d + m = 8 → d < F → u < 2 ^ 64 → f2_charactersIn_L5 F S (lN u) (nI m) = some (S, some (.int (nI (cc d m u))))
  | d, 0, _, _, _, h, _ => absurd h (Nat.not_lt_zero _)
  | 0, F + 1, m, u, e, _, hu => by
    show b2_charactersIn_L5 (f2_charactersIn_L5 F) S (lN u) (nI m) = _
    have h1 : (8 : Int32) ≤ nI m := nI_le (a := 8) (b := m) (by omega) (by omega)
    unfold b2_charactersIn_L5 f2_charactersIn_J59
    rw [if_pos h1, cc]
    by_cases c : u = 0
    · rw [if_pos ((lN_0 hu).mpr c), if_pos c]
    · rw [if_neg (fun q => c ((lN_0 hu).mp q)), if_neg c]; rfl
  | d + 1, F + 1, m, u, e, hF, hu => by
    show b2_charactersIn_L5 (f2_charactersIn_L5 F) S (lN u) (nI m) = _
    have h1 : ¬ ((8 : Int32) ≤ nI m) := nI_ge (a := m) (b := 8) (by omega) (by decide)
    have hm : u % 256 < 256 := Nat.mod_lt _ (by decide)
    unfold b2_charactersIn_L5 f2_charactersIn_J59
    rw [if_neg h1, lo8 hu, cc]
    by_cases c1 : u % 256 = 0
    · rw [if_pos ((lN_0 (by omega)).mpr c1), if_pos c1]
      by_cases c : u = 0
      · rw [if_pos ((lN_0 hu).mpr c), if_pos c]
      · rw [if_neg (fun q => c ((lN_0 hu).mp q)), if_neg c]; rfl
    · rw [if_neg (fun q => c1 ((lN_0 (by omega)).mp q)), if_neg c1]
      by_cases c2 : u % 256 < 33
      · rw [if_pos ((lN_33 hm).mpr c2), if_pos c2]; rfl
      · rw [if_neg (fun q => c2 ((lN_33 hm).mp q)), if_neg c2]
        by_cases c3 : u % 256 ≤ 126
        · rw [if_pos ((lN_126 hm).mpr c3), if_pos c3, sh8 hu, nI_1]
          exact chars6 S d F (m + 1) (u / 256) (by omega) (by omega) (Nat.lt_of_le_of_lt (Nat.div_le_self _ _) hu)
        · rw [if_neg (fun q => c3 ((lN_126 hm).mp q)), if_neg c3]; rfl
theorem chars7 (S : xSt) (x : Int64) {p : Nat} (h6 : S 7 0 6 = nI p) (hp : p ≤ 80) : ∀ (d F m u : Nat), d + m = 8 → d < F → u < 256 ^ d → f7_put_L5 F S x (nI m) (lN u) = if cc d m u = 0 then some (S, some (.int (-2))) else if p + cc d m u ≤ 80 then f7_put_L85 xFU S (nI (cc d m u)) x (nI (cc d m u) - 1) else some (S, some (.int (-4)))
  | d, 0, _, _, _, h, _ => absurd h (Nat.not_lt_zero _)
  | d, F + 1, m, u, e, hF, hu => by
    have hu64 : u < 2 ^ 64 := Nat.lt_of_lt_of_le hu (by rw [show (256 : Nat) = 2 ^ 8 by decide, ← Nat.pow_mul]; exact Nat.pow_le_pow_right (by decide) (by omega))
    have hm : u % 256 < 256 := Nat.mod_lt _ (by decide)
    show b7_put_L5 (f7_put_L5 F) S x (nI m) (lN u) = _
    have J : ∀ k, k ≤ 8 → f7_put_J49 S x (nI k) (lN 0) = if k = 0 then some (S, some (.int (-2))) else if p + k ≤ 80 then f7_put_L85 xFU S (nI k) x (nI k - 1) else some (S, some (.int (-4))) := by
      intro k hk
      unfold f7_put_J49
      rw [if_pos ((lN_0 (u := 0) (by decide)).mpr rfl)]
      by_cases c : k = 0
      · have q : nI k = 0 := by rw [c]; rfl
        rw [if_pos q, if_pos c]
      · have q : ¬ nI k = 0 := nI_ne0 (by omega) (by omega)
        rw [if_neg q, if_neg c, h6, nI_add]
        by_cases c2 : p + k ≤ 80
        · have q2 : nI (p + k) ≤ 80 := nI_le (b := 80) c2 (by decide)
          rw [if_pos q2, if_pos c2]
        · have q2 : ¬ nI (p + k) ≤ 80 := nI_ge (a := 80) (b := p + k) (by omega) (by omega)
          rw [if_neg q2, if_neg c2]
    have J0 : ¬ u = 0 → f7_put_J49 S x (nI m) (lN u) = some (S, some (.int (-2))) := by
      intro c
      unfold f7_put_J49
      rw [if_neg (fun q => c ((lN_0 hu64).mp q))]
    unfold b7_put_L5
    rw [lo8 hu64]
    cases d with
    | zero =>
      have u0 : u = 0 := by rw [Nat.pow_zero] at hu; omega
      subst u0
      rw [if_pos ((lN_0 (by decide)).mpr rfl), J m (by omega), cc, if_pos rfl]
    | succ d =>
      rw [cc]
      by_cases c1 : u % 256 = 0
      · rw [if_pos ((lN_0 (by omega)).mpr c1)]
        simp only [if_pos c1]
        by_cases c : u = 0
        · subst c
          rw [J m (by omega)]
          simp only [if_pos (trivial : True)]
        · rw [J0 c]
          simp only [if_neg c]
          rw [if_pos trivial]
      · rw [if_neg (fun q => c1 ((lN_0 (by omega)).mp q))]
        simp only [if_neg c1]
        have hi := in7 S (c := u % 256) 33 126 (by omega) (by decide) (by decide)
        rw [show nI 33 = (33 : Int32) from rfl, show nI 126 = (126 : Int32) from rfl] at hi
        rw [lN_i, hi, xbI_eq]
        by_cases c2 : u % 256 < 33
        · rw [if_neg (show ¬ (33 ≤ u % 256 ∧ u % 256 ≤ 126) by omega)]
          simp only [if_pos c2]
          rw [if_pos trivial, if_pos trivial]
        · by_cases c3 : u % 256 ≤ 126
          · rw [if_pos (show 33 ≤ u % 256 ∧ u % 256 ≤ 126 by omega)]
            simp only [if_neg c2, if_pos c3]
            rw [if_neg (by decide), sh8 hu64, nI_1]
            exact chars7 S x h6 hp d F (m + 1) (u / 256) (by omega) (by omega) (by
              rw [Nat.pow_succ] at hu
              exact Nat.div_lt_of_lt_mul (by rw [Nat.mul_comm]; exact hu))
          · rw [if_neg (show ¬ (33 ≤ u % 256 ∧ u % 256 ≤ 126) by omega)]
            simp only [if_neg c2, if_neg c3]
            rw [if_pos trivial, if_pos trivial]
