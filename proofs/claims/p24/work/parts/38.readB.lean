/-! isRead: its end -/
theorem alk_d (f g : Nat → Nat) : ∀ d i, alk f g (d + 1) i = if f i = g i then alk f g d (i + 1) else i := fun _ _ => rfl
theorem ir_same {S : xSt} {a : Nat → Nat} (hA : AV a) (hQ : QI S a) (i5 i9 i10 i11 : Int32) : ∀ (d F i : Nat), i + d = min ((ra a) 3 0) (a 3) → d < F → fW_isRead_L382 F S i5 (nI ((ra a) 3 0)) i9 i10 i11 (nI i) = fW_isRead_J420 S i5 (nI ((ra a) 3 0)) i9 i10 i11 (nI (alk ((ra a) 4) (mm a) d i))
  | d, 0, _, _, h => absurd h (Nat.not_lt_zero _)
  | 0, F + 1, i, e, _ => by
    obtain ⟨o1, o2, o3⟩ := AV_ra hA
    have hn := hA.2.2.2.1
    show bW_isRead_L382 (fW_isRead_L382 F) S i5 (nI ((ra a) 3 0)) i9 i10 i11 (nI i) = fW_isRead_J420 S i5 (nI ((ra a) 3 0)) i9 i10 i11 (nI i)
    unfold bW_isRead_L382
    by_cases c : (ra a) 3 0 ≤ i
    · rw [if_pos (nI_le c (by omega))]
    · rw [if_neg (nI_ge (by omega) (by omega)), (q_count hA hQ).1, xbI_eq, if_pos (nI_le (by omega) (by omega))]
  | d + 1, F + 1, i, e, hF => by
    obtain ⟨o1, o2, o3⟩ := AV_ra hA
    have hn := hA.2.2.2.1
    have ih := ir_same hA hQ i5 i9 i10 i11 d F (i + 1) (by omega) (by omega)
    have b1 : (ra a) 4 i < 8 := o2 i (by omega)
    have b2 : mm a i < 8 := hA.2.2.2.2.1 i (by omega)
    show bW_isRead_L382 (fW_isRead_L382 F) S i5 (nI ((ra a) 3 0)) i9 i10 i11 (nI i) = _
    unfold bW_isRead_L382
    rw [alk_d, if_neg (nI_ge (by omega) (by omega)), (q_count hA hQ).1, xbI_eq, if_neg (nI_ge (by omega) (by omega)), q_read hA hQ (by omega), xbI_eq, q_sign hA hQ (by omega), xbI_eq, nI_1]
    by_cases c : (ra a) 4 i = mm a i
    · rw [if_pos c, if_pos (congrArg nI c)]; exact ih
    · rw [if_neg c, if_neg (fun z => c (nI_inj (by omega) (by omega) z))]
theorem ir_fin {S : xSt} {a : Nat → Nat} (hA : AV a) (hQ : QI S a) {i10 i11 : Int32} (h10 : i10 = if (ra a) 9 0 = 0 then -6 else nI ((ra a) 10 0)) (h11 : i11 = nI ((ra a) 9 0)) : fW_isRead_J379 S (nI ((ra a) 0 0)) (nI ((ra a) 3 0)) (nI ((ra a) 5 0)) i10 i11 = some (S, some (.int 1)) := by
  obtain ⟨o1, o2, o3⟩ := AV_ra hA
  have hn := hA.2.2.2.1
  obtain ⟨r0, r1, r2, r3, r4, r5⟩ := q_reading hA hQ
  have hs := ir_same hA hQ (nI ((ra a) 0 0)) (nI ((ra a) 5 0)) i10 i11 (min ((ra a) 3 0) (a 3)) xFU 0 (by omega) (by show min ((ra a) 3 0) (a 3) < 1000000; omega)
  have hle := (alk_le ((ra a) 4) (mm a) (min ((ra a) 3 0) (a 3)) 0).2
  obtain ⟨z, hz⟩ : ∃ z, z = alk ((ra a) 4) (mm a) (min ((ra a) 3 0) (a 3)) 0 := ⟨_, rfl⟩
  rw [← hz] at hs hle r5
  have hJ : ∀ v, fW_isRead_J511 S (nI ((ra a) 3 0)) v v = some (S, some (.int 1)) := by
    intro v
    unfold fW_isRead_J511
    rw [if_pos rfl, q_read_no hA hQ, xbI_eq, if_pos rfl, q_read_neg, xbI_eq, if_pos rfl, x1]
  unfold fW_isRead_J379
  refine hs.trans ?_
  unfold fW_isRead_J420
  rw [r0, xbI_eq, if_pos rfl, r1, xbI_eq, if_pos h10.symm, r2, xbI_eq, if_pos h11.symm, r3, xbI_eq, if_pos rfl, r4, xbI_eq, if_pos rfl]
  unfold fW_isRead_J475
  rw [if_neg (by decide), r5, xbI_eq]
  by_cases c1 : z = (ra a) 3 0
  · rw [if_pos (congrArg nI c1), (q_count hA hQ).1, xbI_eq]
    by_cases c2 : (ra a) 3 0 = a 3
    · rw [if_pos (congrArg nI c2), if_pos ⟨c1, c2⟩]; exact hJ _
    · rw [if_neg (fun q => c2 (nI_inj (by omega) (by omega) q)), if_neg (fun q => c2 q.2)]
      unfold fW_isRead_J509
      exact hJ _
  · rw [if_neg (fun q => c1 (nI_inj (by omega) (by omega) q)), if_neg (fun q => c1 q.1)]
    unfold fW_isRead_J509
    exact hJ _
/-- behind the last code that is looked at -/
theorem ir_stop {S : xSt} {a : Nat → Nat} (hA : AV a) (hQ : QI S a) {F k : Nat} (hF : 0 < F) (hk : k ≤ (wa a) 4 0 + 2) {i10 i11 i12 : Int32} (h10 : i10 = if (ra a) 9 0 = 0 then -6 else nI ((ra a) 10 0)) (h11 : i11 = nI ((ra a) 9 0)) (h : ¬ i11 = 0 ∨ (¬ i12 = 0 ∧ (wa a) 4 0 ≤ k)) (i2 i6 i7 : Int32) :
    fW_isRead_L55 F S (nI ((wa a) 4 0)) i2 (nI ((ra a) 0 0)) i6 i7 (nI ((ra a) 3 0)) (nI ((ra a) 5 0)) i10 i11 i12 (nI k) = some (S, some (.int 1)) := by
  have hc := (AV_wfin hA).2.2.2.1
  have hJ : (¬ i11 = 0 ∨ ¬ i12 = 0) → fW_isRead_J363 S (nI ((wa a) 4 0)) (nI ((ra a) 0 0)) (nI ((ra a) 3 0)) (nI ((ra a) 5 0)) i10 i11 i12 = some (S, some (.int 1)) := by
    intro q
    unfold fW_isRead_J363
    by_cases c : i11 = 0
    · have c2 : ¬ i12 = 0 := q.resolve_left (fun z => z c)
      rw [if_pos c, if_neg c2]
      exact ir_fin hA hQ h10 h11
    · rw [if_neg c]
      exact ir_fin hA hQ h10 h11
  cases F with
  | zero => omega
  | succ F =>
    show bW_isRead_L55 (fW_isRead_L55 F) S (nI ((wa a) 4 0)) i2 (nI ((ra a) 0 0)) i6 i7 (nI ((ra a) 3 0)) (nI ((ra a) 5 0)) i10 i11 i12 (nI k) = _
    unfold bW_isRead_L55
    by_cases c : (wa a) 4 0 ≤ k
    · rw [if_pos (nI_le c (by omega))]
      exact hJ (h.imp id (fun z => z.1))
    · rw [if_neg (nI_ge (by omega) (by omega))]
      have c11 : ¬ i11 = 0 := h.elim id (fun z => absurd z.2 c)
      rw [if_neg c11]
      exact hJ (Or.inl c11)
abbrev K11 : Type := xSt → Int32 → Int32 → Int32 → Int32 → Int32 → Int32 → Int32 → Int32 → Int32 → Int32 → Int32 → Option xR
/-- whether the code is of a phrase that comes with it -/
theorem ir_next {S : xSt} {k55 : K11} {c e full b g : Nat} (hc : c < 512) (he : e ≤ 512) (hf : full ≤ 512) (hb : b < 1000) (hg : g < 1000) (i1 i8 i9 i10 i11 i12 i13 : Int32) :
    (if nI g ≤ nI b then fW_isRead_J87 k55 S i1 (nI full) (nI e) (nI b) (nI g) i8 i9 i10 i11 i12 i13 (nI c) (0 : Int32) else fW_isRead_J87 k55 S i1 (nI full) (nI e) (nI b) (nI g) i8 i9 i10 i11 i12 i13 (nI c) (1 : Int32)) =
      fW_isRead_J112 k55 S i1 (nI full) (nI e) (nI b) (nI g) i8 i9 i10 i11 i12 i13 (nI c) (if b < g then 1 else 0) (if c = e ∧ b < g ∧ e < full then 1 else 0) := by
  by_cases cb : b < g
  · rw [if_neg (nI_ge cb (by omega)), if_pos cb]
    unfold fW_isRead_J87 fW_isRead_J111
    by_cases ce : c = e
    · rw [if_pos (congrArg nI ce), if_neg (by decide)]
      by_cases cf : e < full
      · rw [if_neg (nI_ge cf (by omega)), if_pos ⟨ce, cb, cf⟩]
      · rw [if_pos (nI_le (by omega) (by omega)), if_neg (fun z => cf z.2.2)]
    · rw [if_neg (fun z => ce (nI_inj (by omega) (by omega) z)), if_neg (fun z => ce z.1)]
  · rw [if_pos (nI_le (by omega) (by omega)), if_neg cb, if_neg (fun z => cb z.2.1)]
    unfold fW_isRead_J87 fW_isRead_J111
    by_cases ce : c = e
    · rw [if_pos (congrArg nI ce), if_pos rfl]
    · rw [if_neg (fun z => ce (nI_inj (by omega) (by omega) z))]
/-- the signs of a phrase are those of another place -/
theorem ir_copy {S : xSt} {a : Nat → Nat} (hA : AV a) (hQ : QI S a) {k55 : K11} {p f l : Nat} (hp : p + l ≤ (ra a) 3 0) (hf : f + l ≤ (ra a) 3 0) (hs : ∀ j, j < l → (ra a) 4 (p + j) = (ra a) 4 (f + j)) (i1 i2 i5 i6 i7 i9 i10 i11 i12 i13 i15 i16 : Int32) :
    ∀ (d F i : Nat), i + d = l → d < F → fW_isRead_L252 k55 F S i1 i2 i5 i6 i7 (nI p) i9 i10 i11 i12 i13 i15 i16 (nI f) (nI l) (nI i) = fW_isRead_J288 k55 S i1 i2 i5 i6 i7 (nI p) i9 i10 i11 i12 i13 i15 i16 (nI l)
  | d, 0, _, _, h => absurd h (Nat.not_lt_zero _)
  | 0, F + 1, i, e, _ => by
    obtain ⟨o1, o2, o3⟩ := AV_ra hA
    show bW_isRead_L252 k55 (fW_isRead_L252 k55 F) S i1 i2 i5 i6 i7 (nI p) i9 i10 i11 i12 i13 i15 i16 (nI f) (nI l) (nI i) = _
    unfold bW_isRead_L252
    rw [if_pos (nI_le (by omega) (by omega))]
  | d + 1, F + 1, i, e, hF => by
    obtain ⟨o1, o2, o3⟩ := AV_ra hA
    have ih := ir_copy hA hQ (k55 := k55) hp hf hs i1 i2 i5 i6 i7 i9 i10 i11 i12 i13 i15 i16 d F (i + 1) (by omega) (by omega)
    show bW_isRead_L252 k55 (fW_isRead_L252 k55 F) S i1 i2 i5 i6 i7 (nI p) i9 i10 i11 i12 i13 i15 i16 (nI f) (nI l) (nI i) = _
    unfold bW_isRead_L252
    rw [if_neg (nI_ge (by omega) (by omega)), nI_add, nI_add, q_read hA hQ (by omega), xbI_eq, q_read hA hQ (by omega), xbI_eq, if_pos (by rw [hs i (by omega)]), nI_1]
    exact ih
