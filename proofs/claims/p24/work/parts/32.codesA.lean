/-! areCodes: parts of its loop -/
abbrev K14 : Type := xSt → Int32 → Int32 → Int32 → Int32 → Int32 → Int32 → Int32 → Int32 → Int32 → Int32 → Int32 → Int32 → Int32 → Int32 → Option xR
theorem ix10 {b e : Nat} (h : 10 ≤ e) : nI b + nI e - 10 = nI (b + (e - 10)) := by
  rw [nI_add, show (10 : Int32) = nI 10 from rfl, pk_sub (by omega)]
  congr 1
  omega
theorem ac_long {S : xSt} {a : Nat → Nat} {k134 : K14} (hA : AV a) (hQ : QI S a) {ln pl : Nat → Nat} {b k E p : Nat} (h2 : ∀ j, j ≤ k → S 33 2 j = nI (ln j) ∧ ln j ≤ 240) (h1 : ∀ e, 10 ≤ e → e < E → S 33 1 (b + (e - 10)) = nI (pl (b + (e - 10)))) (hk : k < 64) (hb : b + (E - 10) ≤ k) (hE : E ≤ 512) (hp : p ≤ 240)
    (hl : ∀ e, 10 ≤ e → e < E → ln k < ln (b + (e - 10)) + 1 → p + (ln (b + (e - 10)) + 1) ≤ a 3 → pl (b + (e - 10)) + (ln (b + (e - 10)) + 1) ≤ a 3 ∧ ¬ ∀ t, t < ln (b + (e - 10)) + 1 → mm a (p + t) = mm a (pl (b + (e - 10)) + t)) (i1 i3 i4 i5 i12 i13 i14 i15 i16 : Int32) :
    ∀ (d F e : Nat), e + d = E → 10 ≤ e → d < F → fW_areCodes_L430 k134 F S i1 (nI (a 3)) i3 i4 i5 (nI p) (nI b) (nI E) i12 i13 i14 i15 i16 (nI k) (nI e) = fW_areCodes_J501 k134 S i1 (nI (a 3)) i3 i4 i5 (nI p) (nI b) (nI E) i12 i13 i14 i15 i16 (nI k)
  | d, 0, _, _, _, h => absurd h (Nat.not_lt_zero _)
  | 0, F + 1, e, e9, h10, _ => by
    show bW_areCodes_L430 k134 (fW_areCodes_L430 k134 F) S i1 (nI (a 3)) i3 i4 i5 (nI p) (nI b) (nI E) i12 i13 i14 i15 i16 (nI k) (nI e) = _
    unfold bW_areCodes_L430
    rw [if_pos (nI_le (by omega) (by omega))]
  | d + 1, F + 1, e, e9, h10, hF => by
    have hn := hA.2.2.2.1
    have ih := ac_long (k134 := k134) hA hQ h2 h1 hk hb hE hp hl i1 i3 i4 i5 i12 i13 i14 i15 i16 d F (e + 1) (by omega) (by omega) (by omega)
    have hJ : fW_areCodes_J495 k134 (fW_areCodes_L430 k134 F) S i1 (nI (a 3)) i3 i4 i5 (nI p) (nI b) (nI E) i12 i13 i14 i15 i16 (nI k) (nI e) = fW_areCodes_J501 k134 S i1 (nI (a 3)) i3 i4 i5 (nI p) (nI b) (nI E) i12 i13 i14 i15 i16 (nI k) := by
      unfold fW_areCodes_J495
      rw [nI_1]
      exact ih
    have hj := h2 (b + (e - 10)) (by omega)
    have hkk := h2 k (Nat.le_refl _)
    show bW_areCodes_L430 k134 (fW_areCodes_L430 k134 F) S i1 (nI (a 3)) i3 i4 i5 (nI p) (nI b) (nI E) i12 i13 i14 i15 i16 (nI k) (nI e) = _
    unfold bW_areCodes_L430
    rw [if_neg (nI_ge (by omega) (by omega)), ix10 h10, xat_ok (by omega) (by decide), xat_ok hk (by decide), hj.1, hkk.1, nI_1, nI_add, xat_ok (by omega) (by decide), h1 e h10 (by omega), hJ]
    by_cases c1 : ln (b + (e - 10)) + 1 ≤ ln k
    · rw [if_pos (nI_le c1 (by omega))]
    · rw [if_neg (nI_ge (by omega) (by omega))]
      by_cases c2 : a 3 < p + (ln (b + (e - 10)) + 1)
      · rw [if_pos (nI_lt c2 (by omega))]
      · rw [if_neg (nI_nlt (by omega) (by omega))]
        obtain ⟨g1, g2⟩ := hl e h10 (by omega) (by omega) (by omega)
        rw [alike_0 hA hQ (by omega) g1 g2, xbI_eq, if_pos rfl, hJ]
/-- sums from behind -/
def rsm (f : Nat → Nat) (k : Nat) : Nat → Nat
  | 0 => 0
  | t + 1 => rsm f k t + f (k - t)
theorem sml_cons (f : Nat → Nat) : ∀ (d a : Nat), sml f a (d + 1) = f a + sml f (a + 1) d
  | 0, a => by
    show 0 + f (a + 0) = f a + 0
    rw [Nat.zero_add, Nat.add_zero, Nat.add_zero]
  | d + 1, a => by
    rw [sml, sml_cons f d a, sml, show a + 1 + d = a + (d + 1) by omega]
    omega
theorem rsm_sml (f : Nat → Nat) (k : Nat) : ∀ t, t ≤ k + 1 → rsm f k t = sml f (k + 1 - t) t
  | 0, _ => rfl
  | t + 1, h => by
    rw [rsm, rsm_sml f k t (by omega), show k + 1 - (t + 1) = k - t by omega, sml_cons, show k - t + 1 = k + 1 - t by omega]
    omega
theorem rsm_le {f : Nat → Nat} {k : Nat} (h : ∀ j, j ≤ k → f j ≤ 240) : ∀ t, rsm f k t ≤ 240 * t
  | 0 => Nat.le_refl _
  | t + 1 => by
    have := rsm_le h t
    have := h (k - t) (by omega)
    rw [rsm]
    omega
theorem ac_sum_no {S : xSt} {k134 : K14} {k wi since : Nat} (hk : k < 64) (hw : wi ≤ 32) (hs : since ≤ k + 1) (h : ¬ 2 * wi ≤ k + 1 - since) (i1 i2 i3 i4 i9 i10 i11 i13 i14 i15 i20 i21 : Int32) (F i : Nat) (hi : i ≤ wi) :
    fW_areCodes_L601 k134 (F + 1) S i1 i2 i3 i4 (nI wi) i9 i10 i11 (nI since) i13 i14 i15 (nI k) i20 i21 (nI i) = fW_areCodes_J657 k134 S i1 i2 i3 i4 (nI wi) i9 i10 i11 (nI since) i13 i14 i15 (nI k) i20 i21 := by
  show bW_areCodes_L601 k134 (fW_areCodes_L601 k134 F) S i1 i2 i3 i4 (nI wi) i9 i10 i11 (nI since) i13 i14 i15 (nI k) i20 i21 (nI i) = _
  unfold bW_areCodes_L601
  by_cases c : wi ≤ i
  · rw [if_pos (nI_le c (by omega))]
  · rw [if_neg (nI_ge (by omega) (by omega)), nI_1, pk_sub hs, show (2 : Int32) = nI 2 from rfl, pk_mul, if_pos (nI_lt (by omega) (by omega))]
theorem ac_sum {S : xSt} {k134 : K14} {ln : Nat → Nat} {k wi since : Nat} (h2 : ∀ j, j ≤ k → S 33 2 j = nI (ln j) ∧ ln j ≤ 240) (hk : k < 64) (hw : wi ≤ 32) (hs : since ≤ k + 1) (h : 2 * wi ≤ k + 1 - since) (i1 i2 i3 i4 i9 i10 i11 i13 i14 i15 : Int32) :
    ∀ (d F i : Nat), i + d = wi → d < F → fW_areCodes_L601 k134 F S i1 i2 i3 i4 (nI wi) i9 i10 i11 (nI since) i13 i14 i15 (nI k) (nI (rsm ln k i)) (nI (rsm ln (k - wi) i)) (nI i) = fW_areCodes_J657 k134 S i1 i2 i3 i4 (nI wi) i9 i10 i11 (nI since) i13 i14 i15 (nI k) (nI (rsm ln k wi)) (nI (rsm ln (k - wi) wi))
  | d, 0, _, _, h => absurd h (Nat.not_lt_zero _)
  | 0, F + 1, i, e, _ => by
    show bW_areCodes_L601 k134 (fW_areCodes_L601 k134 F) S i1 i2 i3 i4 (nI wi) i9 i10 i11 (nI since) i13 i14 i15 (nI k) _ _ (nI i) = _
    unfold bW_areCodes_L601
    rw [if_pos (nI_le (by omega) (by omega)), show i = wi by omega]
  | d + 1, F + 1, i, e, hF => by
    have ih := ac_sum (k134 := k134) h2 hk hw hs h i1 i2 i3 i4 i9 i10 i11 i13 i14 i15 d F (i + 1) (by omega) (by omega)
    rw [rsm, rsm] at ih
    show bW_areCodes_L601 k134 (fW_areCodes_L601 k134 F) S i1 i2 i3 i4 (nI wi) i9 i10 i11 (nI since) i13 i14 i15 (nI k) _ _ (nI i) = _
    unfold bW_areCodes_L601
    rw [if_neg (nI_ge (by omega) (by omega)), nI_1, pk_sub hs, show (2 : Int32) = nI 2 from rfl, pk_mul, if_neg (nI_nlt (by omega) (by omega)), pk_sub (by omega), xat_ok (by omega) (by decide), pk_sub (by omega), pk_sub (by omega), xat_ok (by omega) (by decide), (h2 (k - i) (by omega)).1, (h2 (k - wi - i) (by omega)).1, nI_add, nI_add, nI_1]
    exact ih
/-- whether the book is to be cleared -/
theorem ac_flag {S : xSt} {k134 : K14} {w : wS} {full po wi : Nat} (hw4 : 1 ≤ w 4 0) (h2 : ∀ j, j ≤ w 4 0 - 1 → S 33 2 j = nI (w 6 j) ∧ w 6 j ≤ 240) (hk : w 4 0 ≤ 64) (hw : wi ≤ 32) (hpo : po ≤ 2) (hfl : full ≤ 512) (he : w 0 0 ≤ full) (hs : w 10 0 ≤ w 4 0) (i1 i2 i9 i10 i13 i14 i15 : Int32) :
    fW_areCodes_J590 k134 S i1 i2 (nI full) (nI po) (nI wi) i9 i10 (nI (w 0 0)) i13 i14 i15 (nI (w 4 0 - 1)) (nI (w 10 0)) = k134 S i1 i2 (nI full) (nI po) (nI wi) i9 i10 (nI (w 0 0)) (nI (w 10 0)) i13 i14 i15 (if wcl w full po wi = true then 1 else 0) (nI (w 4 0)) := by
  have hk1 : w 4 0 - 1 + 1 = w 4 0 := by omega
  have h7 : ∀ v20 v21 : Int32, (wcl w full po wi = true ↔ (w 0 0 = full ∧ (po = 1 ∨ (po = 2 ∧ ¬ v21 ≤ v20)))) → fW_areCodes_J657 k134 S i1 i2 (nI full) (nI po) (nI wi) i9 i10 (nI (w 0 0)) (nI (w 10 0)) i13 i14 i15 (nI (w 4 0 - 1)) v20 v21 = k134 S i1 i2 (nI full) (nI po) (nI wi) i9 i10 (nI (w 0 0)) (nI (w 10 0)) i13 i14 i15 (if wcl w full po wi = true then 1 else 0) (nI (w 4 0)) := by
    intro v20 v21 hv
    unfold fW_areCodes_J657 fW_areCodes_J682 fW_areCodes_J686 fW_areCodes_J687 fW_areCodes_J689
    rw [nI_1, hk1]
    by_cases c1 : w 0 0 = full
    · rw [if_pos (congrArg nI c1)]
      by_cases c2 : po = 1
      · rw [if_pos (by rw [c2]; rfl), if_pos (hv.mpr ⟨c1, Or.inl c2⟩)]
      · have n2 : ¬ nI po = 1 := fun q => c2 (nI_inj (b := 1) (by omega) (by decide) q)
        rw [if_neg n2]
        by_cases c3 : po = 2
        · rw [if_pos (show nI po = 2 by rw [c3]; rfl)]
          by_cases c4 : v21 ≤ v20
          · rw [if_pos c4, if_neg (fun q => by
              rcases (hv.mp q).2 with z | z
              · exact c2 z
              · exact z.2 c4)]
          · rw [if_neg c4, if_pos (hv.mpr ⟨c1, Or.inr ⟨c3, c4⟩⟩)]
        · have n3 : ¬ nI po = 2 := fun q => c3 (nI_inj (b := 2) (by omega) (by decide) q)
          rw [if_neg n3, if_neg (fun q => by
            rcases (hv.mp q).2 with z | z
            · exact c2 z
            · exact c3 z.1)]
    · rw [if_neg (fun q => c1 (nI_inj (by omega) (by omega) q)), if_neg (fun q => c1 (hv.mp q).1)]
  have hwc : wcl w full po wi = true ↔ (w 0 0 = full ∧ (po = 1 ∨ (po = 2 ∧ 2 * wi ≤ w 4 0 - w 10 0 ∧ nI (sml (w 6) (w 4 0 - wi) wi) < nI (sml (w 6) (w 4 0 - 2 * wi) wi)))) := by
    rw [wcl_eq]
    simp only [Bool.and_eq_true, Bool.or_eq_true, decide_eq_true_eq, and_assoc]
  unfold fW_areCodes_J590
  by_cases c : 2 * wi ≤ w 4 0 - w 10 0
  · have h9 := ac_sum (S := S) (k134 := k134) (ln := w 6) (k := w 4 0 - 1) (wi := wi) (since := w 10 0) h2 (by omega) hw (by omega) (by omega) i1 i2 (nI full) (nI po) i9 i10 (nI (w 0 0)) i13 i14 i15 wi xFU 0 (by omega) (by show wi < 1000000; omega)
    refine h9.trans (h7 _ _ ?_)
    rw [hwc, rsm_sml _ _ _ (by omega), rsm_sml _ _ _ (by omega), hk1, show w 4 0 - 1 - wi + 1 - wi = w 4 0 - 2 * wi by omega, Int32.not_le]
    constructor
    · rintro ⟨a1, a2⟩
      refine ⟨a1, ?_⟩
      rcases a2 with z | z
      · exact Or.inl z
      · exact Or.inr ⟨z.1, z.2.2⟩
    · rintro ⟨a1, a2⟩
      refine ⟨a1, ?_⟩
      rcases a2 with z | z
      · exact Or.inl z
      · exact Or.inr ⟨z.1, c, z.2⟩
  · have h9 := ac_sum_no (S := S) (k134 := k134) (k := w 4 0 - 1) (wi := wi) (since := w 10 0) (by omega) hw (by omega) (by omega) i1 i2 (nI full) (nI po) i9 i10 (nI (w 0 0)) i13 i14 i15 0 0 999999 0 (Nat.zero_le _)
    refine h9.trans (h7 _ _ ?_)
    rw [hwc]
    constructor
    · rintro ⟨a1, a2⟩
      refine ⟨a1, ?_⟩
      rcases a2 with z | z
      · exact Or.inl z
      · exact absurd z.2.1 c
    · rintro ⟨a1, a2⟩
      refine ⟨a1, ?_⟩
      rcases a2 with z | z
      · exact Or.inl z
      · exact absurd (by decide) z.2
