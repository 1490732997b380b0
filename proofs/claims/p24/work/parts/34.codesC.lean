/-! areCodes: code by code -/
theorem ac_head {S : xSt} {a : Nat → Nat} {k134 : K14} (hA : AV a) (hQ : QI S a) {k E : Nat} (hk : k < (wa a) 4 0) (h7 : (wa a) 7 k = E) (h1 : 1 ≤ E) (h2 : E ≤ 512) (i2 i3 i4 i5 i9 i10 i12 i13 i14 i15 i16 : Int32) :
    bW_areCodes_L134 k134 S (nI ((wa a) 4 0)) i2 i3 i4 i5 i9 i10 (nI E) i12 i13 i14 i15 i16 (nI k) =
      if i16 = 0 then
        if i9 = i2 then
          fW_areCodes_J190 k134 S (nI ((wa a) 4 0)) i2 i3 i4 i5 i9 (nI E) i12 (i13 + nI (wid E)) i14 i15 i16 (nI k)
        else
          xat (nI k) 64 fun j9 =>
          xat (nI k) 64 fun j10 =>
          if (S 33 1 j10) = i9 then
            if (S 33 0 j9) = (8 : Int32) then
              xne ((0 : Int32) &&& 1 = (0 : Int32)) (some (S, some (.int (0 : Int32))))
            else
              if (S 33 0 j9) = (9 : Int32) then
                xne ((0 : Int32) &&& 1 = (0 : Int32)) (some (S, some (.int (0 : Int32))))
              else
                if (nI E) ≤ (S 33 0 j9) then
                  xne ((0 : Int32) &&& 1 = (0 : Int32)) (some (S, some (.int (0 : Int32))))
                else
                  if (8 : Int32) ≤ (S 33 0 j9) then
                    fW_areCodes_J334 k134 S (nI ((wa a) 4 0)) i2 i3 i4 i5 i9 i10 (nI E) i12 (i13 + nI (wid E)) i14 i15 i16 (nI k) (S 33 0 j9) (0 : Int32)
                  else
                    fW_areCodes_J334 k134 S (nI ((wa a) 4 0)) i2 i3 i4 i5 i9 i10 (nI E) i12 (i13 + nI (wid E)) i14 i15 i16 (nI k) (S 33 0 j9) (1 : Int32)
          else
            xne ((0 : Int32) &&& 1 = (0 : Int32)) (some (S, some (.int (0 : Int32))))
      else
        fW_areCodes_J190 k134 S (nI ((wa a) 4 0)) i2 i3 i4 i5 i9 (nI E) i12 (i13 + nI (wid E)) i14 i15 i16 (nI k) := by
  have hc := (AV_wfin hA).2.2.2.1
  obtain ⟨o0, o1, o2, o3, o4, o5⟩ := q_ofCode hA hQ hk
  unfold bW_areCodes_L134
  rw [if_neg (nI_ge hk (by omega)), bits_ok S h1 h2, xbI_eq, o5, xbI_eq, h7, if_pos rfl, o2, xbI_eq, bits_ok S h1 h2, xbI_eq, h7, if_pos rfl]
/-- CLEAR, or END -/
theorem ac_special {S : xSt} {k134 : K14} {K k x : Nat} {f : Int32} (hK : K ≤ 64) (hk : k < K) (h0 : S 33 0 k = nI x) (h1 : S 33 1 k = -6) (h2 : S 33 2 k = 0) (hx : (f = 1 ∧ x = 8) ∨ (f = 0 ∧ x = 9 ∧ k + 1 = K)) (i2 i3 i4 i5 i9 i11 i12 i13 i14 i15 : Int32) :
    fW_areCodes_J190 k134 S (nI K) i2 i3 i4 i5 i9 i11 i12 i13 i14 i15 f (nI k) = k134 S (nI K) i2 i3 i4 i5 i9 (nI (k + 1)) (if f = 0 then i11 else 10) i12 i13 (i14 + f) i15 0 (nI (k + 1)) := by
  unfold fW_areCodes_J190
  rcases hx with ⟨rfl, rfl⟩ | ⟨rfl, rfl, e⟩
  · rw [xat_ok (by omega) (by decide), h0, if_neg (by decide)]
    unfold fW_areCodes_J207
    rw [if_pos (by rfl), xat_ok (by omega) (by decide), h1, if_pos rfl, xat_ok (by omega) (by decide), h2, if_pos rfl, if_neg (by decide)]
    unfold fW_areCodes_J243
    rw [if_neg (by decide)]
    unfold fW_areCodes_J255
    rw [if_neg (by decide)]
    unfold fW_areCodes_J270 fW_areCodes_J689
    rw [nI_1, if_neg (by decide)]
  · rw [xat_ok (by omega) (by decide), h0, if_pos rfl]
    unfold fW_areCodes_J207
    have hp : nI K - 1 = nI k := by
      rw [← e]
      exact nI_pred k
    rw [if_pos (by rfl), xat_ok (by omega) (by decide), h1, if_pos rfl, xat_ok (by omega) (by decide), h2, if_pos rfl, if_pos rfl, hp, if_pos rfl]
    unfold fW_areCodes_J243
    rw [if_pos rfl]
    unfold fW_areCodes_J255
    rw [if_pos rfl]
    unfold fW_areCodes_J270 fW_areCodes_J689
    rw [nI_1, if_pos rfl]
/-- a code that stands for signs comes to the search for a longer one -/
theorem ac_body {S : xSt} {a : Nat → Nat} {k134 : K14} (hA : AV a) (hQ : QI S a) {k E x p q b : Nat} {pl ln : Nat → Nat} (hk : k < 64) (h0 : S 33 0 k = nI x) (h1 : S 33 1 k = nI p) (h2 : S 33 2 k = nI (q - p)) (hE : E ≤ 512) (hx : x < E) (hx2 : ¬ (x = 8 ∨ x = 9)) (hpq : p < q) (hq : q ≤ a 3) (hsz : x < 8 → q - p = 1 ∧ mm a p = x) (hsz2 : 10 ≤ x → 2 ≤ q - p ∧ b + (x - 10) < 64 ∧ S 33 2 (b + (x - 10)) = nI (ln x) ∧ ln x + 1 = q - p ∧ S 33 1 (b + (x - 10)) = nI (pl x) ∧ pl x + (q - p) ≤ a 3 ∧ ∀ t, t < q - p → mm a (p + t) = mm a (pl x + t)) (i1 i3 i4 i5 i12 i13 i14 i15 : Int32) :
    (if (0 : Int32) = 0 then
        if (nI p) = (nI (a 3)) then
          fW_areCodes_J190 k134 S i1 (nI (a 3)) i3 i4 i5 (nI p) (nI E) i12 (i13 + nI (wid E)) i14 i15 0 (nI k)
        else
          xat (nI k) 64 fun j9 =>
          xat (nI k) 64 fun j10 =>
          if (S 33 1 j10) = (nI p) then
            if (S 33 0 j9) = (8 : Int32) then
              xne ((0 : Int32) &&& 1 = (0 : Int32)) (some (S, some (.int (0 : Int32))))
            else
              if (S 33 0 j9) = (9 : Int32) then
                xne ((0 : Int32) &&& 1 = (0 : Int32)) (some (S, some (.int (0 : Int32))))
              else
                if (nI E) ≤ (S 33 0 j9) then
                  xne ((0 : Int32) &&& 1 = (0 : Int32)) (some (S, some (.int (0 : Int32))))
                else
                  if (8 : Int32) ≤ (S 33 0 j9) then
                    fW_areCodes_J334 k134 S i1 (nI (a 3)) i3 i4 i5 (nI p) (nI b) (nI E) i12 (i13 + nI (wid E)) i14 i15 0 (nI k) (S 33 0 j9) (0 : Int32)
                  else
                    fW_areCodes_J334 k134 S i1 (nI (a 3)) i3 i4 i5 (nI p) (nI b) (nI E) i12 (i13 + nI (wid E)) i14 i15 0 (nI k) (S 33 0 j9) (1 : Int32)
          else
            xne ((0 : Int32) &&& 1 = (0 : Int32)) (some (S, some (.int (0 : Int32))))
      else
        fW_areCodes_J190 k134 S i1 (nI (a 3)) i3 i4 i5 (nI p) (nI E) i12 (i13 + nI (wid E)) i14 i15 0 (nI k)) =
      fW_areCodes_J426 k134 S i1 (nI (a 3)) i3 i4 i5 (nI p) (nI b) (nI E) i12 (i13 + nI (wid E)) i14 i15 0 (nI k) := by
  have hn := hA.2.2.2.1
  have n8 : ¬ nI x = 8 := fun z => hx2 (Or.inl (nI_inj (b := 8) (by omega) (by decide) z))
  have n9' : ¬ nI x = 9 := fun z => hx2 (Or.inr (nI_inj (b := 9) (by omega) (by decide) z))
  have np : ¬ nI p = nI (a 3) := fun z => by have := nI_inj (by omega) (by omega) z; omega
  rw [if_pos rfl, if_neg np, xat_ok hk (by decide), xat_ok hk (by decide), h1, if_pos rfl, h0, if_neg n8, if_neg n9', if_neg (nI_ge hx (by omega))]
  by_cases c : x < 8
  · obtain ⟨s1, s2⟩ := hsz c
    have c8 : ¬ ((8 : Int32) ≤ nI x) := nI_ge (a := x) (b := 8) c (by decide)
    rw [if_neg c8]
    unfold fW_areCodes_J334
    rw [xat_ok hk (by decide), h2, s1, if_pos (by rfl)]
    unfold fW_areCodes_J348
    rw [if_pos rfl, if_neg c8, q_sign hA hQ (by omega), xbI_eq, s2, if_pos rfl]
    unfold fW_areCodes_J371
    have c10 : nI x < 10 := nI_lt (a := x) (b := 10) (by omega) (by decide)
    rw [if_pos c10]
  · have h10 : 10 ≤ x := by omega
    obtain ⟨s1, s2, s3, s4, s5, s6, s7⟩ := hsz2 h10
    have c8 : (8 : Int32) ≤ nI x := nI_le (a := 8) (b := x) (by omega) (by omega)
    have e1 : ¬ nI (q - p) = 1 := fun z => by have := nI_inj (b := 1) (by omega) (by decide) z; omega
    have c10 : ¬ nI x < 10 := nI_nlt (a := x) (b := 10) h10 (by omega)
    rw [if_pos c8]
    unfold fW_areCodes_J334
    rw [xat_ok hk (by decide), h2, if_neg e1]
    unfold fW_areCodes_J348
    rw [if_pos rfl, if_pos c8]
    unfold fW_areCodes_J371
    rw [if_neg c10, xat_ok hk (by decide), ix10 h10, xat_ok s2 (by decide), h2, s3, nI_1, s4, if_pos rfl, xat_ok s2 (by decide), xat_ok hk (by decide), s5, h2, alike_1 hA hQ (by omega) s6 s7, xbI_eq, if_neg (by decide)]
