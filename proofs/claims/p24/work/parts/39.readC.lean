/-! isRead: a code, and the loop -/
theorem ir_note {S : xSt} {k55 : K11} {e full b g p l ea c k : Nat} (hg : g < 64) (he : e ≤ 512) (hf : full ≤ 512) (hb : b < 1000) (hn : c = e → b < g ∧ e < full) (i1 i10 i11 i12 : Int32) :
    fW_isRead_J288 k55 S i1 (nI full) (nI e) (nI b) (nI g) (nI p) (nI ea) i10 i11 i12 (nI k) (if b < g then 1 else 0) (if c = e ∧ b < g ∧ e < full then 1 else 0) (nI l) =
      k55 (xup (xup S 33 0 g (nI p)) 33 1 g (nI l)) i1 (nI full) (nI (if b < g ∧ e < full then e + 1 else e)) (nI b) (nI (g + 1)) (nI (p + l)) (nI (ea + (if c = e then 1 else 0))) i10 i11 i12 (nI (k + 1)) := by
  have h9 : ∀ S4 : xSt, ∀ v : Nat, fW_isRead_J323 k55 S4 i1 (nI full) (nI e) (nI b) (nI (g + 1)) (nI (p + l)) i10 i11 i12 (nI k) (if b < g then 1 else 0) (nI v) (nI ea) = k55 S4 i1 (nI full) (nI (if b < g ∧ e < full then e + 1 else e)) (nI b) (nI (g + 1)) (nI (p + l)) (nI (ea + v)) i10 i11 i12 (nI (k + 1)) := by
    intro S4 v
    unfold fW_isRead_J323 fW_isRead_J343 fW_isRead_J344 fW_isRead_J357
    rw [nI_add, nI_1, Int32.add_zero, nI_1]
    by_cases c1 : b < g
    · rw [if_pos c1, if_neg (by decide)]
      by_cases c2 : e < full
      · rw [if_neg (nI_ge c2 (by omega)), if_pos ⟨c1, c2⟩]
      · rw [if_pos (nI_le (by omega) (by omega)), if_neg (fun z => c2 z.2)]
    · rw [if_neg c1, if_pos rfl, if_neg (fun z => c1 z.1)]
  unfold fW_isRead_J288
  rw [xat_ok hg (by decide), xlet_eq, xat_ok hg (by decide), xlet_eq, nI_1, nI_add]
  by_cases cc : c = e
  · obtain ⟨c1, c2⟩ := hn cc
    have hx : (if c = e ∧ b < g ∧ e < full then (1 : Int32) else 0) = 1 := if_pos ⟨cc, c1, c2⟩
    rw [hx, if_neg (by decide), if_pos cc]
    exact h9 _ 1
  · have hx : (if c = e ∧ b < g ∧ e < full then (1 : Int32) else 0) = 0 := if_neg (fun z => cc z.1)
    rw [hx, if_pos rfl, if_neg cc]
    exact h9 _ 0
theorem ir_body {S : xSt} {a : Nat → Nat} (hA : AV a) (hQ : QI S a) {k55 : K11} {r : wS} {pl ln : Nat → Nat} {full b g c k i : Nat} (hf : full ≤ 512) (hL : LR r pl ln full b g) (hI : RI r full i) (hg : g < 64) (hc : c < 512) (hc8 : ¬ c = 8) (hc9 : ¬ c = 9) (hs : rst r c full = true) (hk : RK (ren r c full) (ra a)) (hR : ∀ j, j < g → S 33 0 j = nI (pl j) ∧ S 33 1 j = nI (ln j)) (i1 i10 i11 i12 : Int32) :
    fW_isRead_J179 k55 S i1 (nI full) (nI (r 0 0)) (nI b) (nI g) (nI (r 3 0)) (nI (r 5 0)) i10 i11 i12 (nI k) (nI c) (if b < g then 1 else 0) (if c = r 0 0 ∧ b < g ∧ r 0 0 < full then 1 else 0) =
      k55 (xup (xup S 33 0 g (nI (r 3 0))) 33 1 g (nI (lnc r c full))) i1 (nI full) (nI ((ren r c full) 0 0)) (nI b) (nI (g + 1)) (nI ((ren r c full) 3 0)) (nI ((ren r c full) 5 0)) i10 i11 i12 (nI (k + 1)) := by
  obtain ⟨o1, o2, o3⟩ := AV_ra hA
  obtain ⟨m1, m2, m3, m4⟩ := ren_copy hI hc8 hc9 hs
  have hp := LR_ph hL hs
  have hb : b ≤ g := hL.1
  have he := hI.1.2
  have e0 : (ren r c full) 0 0 = if b < g ∧ r 0 0 < full then r 0 0 + 1 else r 0 0 := by
    rw [ren_o r c full (by decide) (by decide) (by decide) (by decide) (by decide), rg1_0]
    by_cases z : 0 < r 7 0 ∧ r 0 0 < full
    · rw [if_pos z, if_pos ⟨hL.2.1.mp z.1, z.2⟩]
    · rw [if_neg z, if_neg (fun y => z ⟨hL.2.1.mpr y.1, y.2⟩)]
  have e5 : (ren r c full) 5 0 = r 5 0 + if c = r 0 0 then 1 else 0 := by
    rw [ren_o r c full (by decide) (by decide) (by decide) (by decide) (by decide), rg1_5]
  have hn : c = r 0 0 → b < g ∧ r 0 0 < full := fun q => by
    rcases rst_or hs with z | z
    · omega
    · exact ⟨hL.2.1.mp z.2.1, z.2.2⟩
  have hnote := ir_note (S := S) (k55 := k55) (e := r 0 0) (full := full) (b := b) (g := g) (p := r 3 0) (l := lnc r c full) (ea := r 5 0) (c := c) (k := k) hg (by omega) hf (by omega) hn i1 i10 i11 i12
  have hpl : r 3 0 + lnc r c full ≤ (ra a) 3 0 := by rw [← m1]; exact hk.1
  have hcopy : ∀ f, f + lnc r c full ≤ (ra a) 3 0 → (∀ j, j < lnc r c full → (ra a) 4 (r 3 0 + j) = (ra a) 4 (f + j)) → fW_isRead_J249 k55 S i1 (nI full) (nI (r 0 0)) (nI b) (nI g) (nI (r 3 0)) (nI (r 5 0)) i10 i11 i12 (nI k) (if b < g then 1 else 0) (if c = r 0 0 ∧ b < g ∧ r 0 0 < full then 1 else 0) (nI f) (nI (lnc r c full)) = fW_isRead_J288 k55 S i1 (nI full) (nI (r 0 0)) (nI b) (nI g) (nI (r 3 0)) (nI (r 5 0)) i10 i11 i12 (nI k) (if b < g then 1 else 0) (if c = r 0 0 ∧ b < g ∧ r 0 0 < full then 1 else 0) (nI (lnc r c full)) := by
    intro f hf1 hf2
    exact ir_copy hA hQ (k55 := k55) hpl hf1 hf2 i1 (nI full) (nI (r 0 0)) (nI b) (nI g) (nI (r 5 0)) i10 i11 i12 (nI k) (if b < g then 1 else 0) (if c = r 0 0 ∧ b < g ∧ r 0 0 < full then 1 else 0) (lnc r c full) xFU 0 (by omega) (by show lnc r c full < 1000000; omega)
  rw [e0, m1, e5]
  by_cases c8 : c < 8
  · have d8 : ¬ ((8 : Int32) ≤ nI c) := nI_ge (a := c) (b := 8) c8 (by decide)
    have el : lnc r c full = 1 := if_pos c8
    have h1 := hcopy (r 3 0) hpl (fun _ _ => rfl)
    unfold fW_isRead_J179
    rw [if_neg d8]
    unfold fW_isRead_J201
    rw [if_neg d8]
    unfold fW_isRead_J227
    rw [if_neg d8, q_read hA hQ (by omega), xbI_eq, hk.2 _ (by omega), m2 c8, if_pos rfl]
    rw [el] at h1 hnote
    rw [el]
    exact h1.trans hnote
  · have h10 : 10 ≤ c := by omega
    have d8 : (8 : Int32) ≤ nI c := nI_le (a := 8) (b := c) (by omega) (by omega)
    obtain ⟨p1, p2, p3⟩ := hp h10
    obtain ⟨s1, s2⟩ := hR (b + (c - 10)) p1
    have el : lnc r c full = ln (b + (c - 10)) + 1 := by unfold lnc; rw [if_neg c8, p3]
    have m3 := m3 c8
    have m4 := m4 c8
    rw [p2] at m3 m4
    have hl1 : 1 ≤ lnc r c full := by omega
    have h1 := hcopy (pl (b + (c - 10))) (by omega) (fun j hj => by
      have a1 := hk.2 (r 3 0 + j) (by omega)
      have a2 := hk.2 (pl (b + (c - 10)) + j) (by omega)
      rw [a1, a2]
      exact m3 j hj)
    unfold fW_isRead_J179
    rw [if_pos d8, ix10 h10, xat_ok (by omega) (by decide), s1]
    unfold fW_isRead_J201
    rw [if_pos d8, ix10 h10, xat_ok (by omega) (by decide), s2, nI_1, ← el]
    unfold fW_isRead_J227
    rw [if_pos d8]
    exact h1.trans hnote
