/-! what is written is read as it was -/
def RW (m : Nat → Nat) (full : Nat) (w r : wS) (b p : Nat) : Prop := r 3 0 = p ∧ (∀ j, j < p → r 4 j = m j) ∧ (0 < r 7 0 ↔ b < w 4 0) ∧ (b < w 4 0 → r 6 0 = w 8 (w 4 0 - 1) ∧ r 7 0 = w 6 (w 4 0 - 1) ∧ (w 0 0 = if r 0 0 < full then r 0 0 + 1 else r 0 0) ∧ (r 0 0 < full → r 0 0 = 10 + (w 4 0 - b - 1))) ∧ (¬ b < w 4 0 → r 0 0 = 10) ∧
  ∀ e, 10 ≤ e → e < r 0 0 → r 1 e = w 8 (b + (e - 10)) ∧ r 2 e = w 3 e
theorem RW_le {m : Nat → Nat} {n full b p p' i : Nat} {w r : wS} (hW : WB w) (hE : WE m n w b p') (hI : RI r full i) (h : RW m full w r b p) : r 0 0 ≤ w 0 0 := by
  have h10 := hW.1
  by_cases c : b < w 4 0
  · have := (h.2.2.2.1 c).2.2.1
    by_cases c2 : r 0 0 < full
    · rw [if_pos c2] at this; omega
    · rw [if_neg c2] at this; omega
  · have := h.2.2.2.2.1 c; omega
/-- a code that is written can stand, and stands for what it stood -/
theorem RW_code {m : Nat → Nat} {n full b p q x i : Nat} {w r : wS} (hfl : 16 ≤ full) (hW : WB w) (hE : WE m n w b p) (hb : b ≤ w 4 0) (hI : RI r full i) (h : RW m full w r b p) (l1 : x < w 0 0) (l2 : ¬ (x = 8 ∨ x = 9)) (l3 : p < q) (l5 : szf w x = q - p) (l7 : TX m w b x p) :
    rst r x full = true ∧ lnc r x full = q - p ∧ (∀ j, j < q → (ren r x full) 4 j = m j) ∧ (ren r x full) 3 0 = q := by
  obtain ⟨h1, h2, h3, h4, h5, h6⟩ := id h
  have hw10 : ¬ b < w 4 0 → w 0 0 = 10 := fun c => by have := hE.1; have := hW.1; omega
  have hs : rst r x full = true := by
    unfold rst
    simp only [Bool.or_eq_true, Bool.and_eq_true, decide_eq_true_eq]
    by_cases c : b < w 4 0
    · have h9 := (h4 c).2.2.1
      by_cases c2 : r 0 0 < full
      · rw [if_pos c2] at h9
        by_cases c3 : x < r 0 0
        · exact Or.inl c3
        · exact Or.inr ⟨by omega, h3.mpr c, c2⟩
      · rw [if_neg c2] at h9
        exact Or.inl (by omega)
    · have := hw10 c
      have := h5 c
      exact Or.inl (by omega)
  obtain ⟨m1, m2, m3, m4⟩ := ren_copy hI (fun z => l2 (Or.inl z)) (fun z => l2 (Or.inr z)) hs
  have hk := RK_ren hI (fun z => l2 (Or.inl z)) (fun z => l2 (Or.inr z)) hs
  have hph : 10 ≤ x → (rg1 r x full) 2 x = w 3 x ∧ (rg1 r x full) 1 x = w 8 (b + (x - 10)) := by
    intro h10
    rw [rg1_1, rg1_2]
    rcases rst_or hs with z | ⟨z1, z2, z3⟩
    · rw [if_neg (by omega), if_neg (by omega)]
      exact ⟨(h6 x h10 z).2, (h6 x h10 z).1⟩
    · have hbk := h3.mp z2
      obtain ⟨a1, a2, a3, a4⟩ := h4 hbk
      have a4 := a4 z3
      obtain ⟨e1, e2, e3, e4, e5, e6⟩ := hE.2.1 x h10 l1
      have ei : b + (x - 10) = w 4 0 - 1 := by omega
      rw [if_pos ⟨⟨z2, z3⟩, z1⟩, if_pos ⟨⟨z2, z3⟩, z1⟩]
      rw [ei] at e2 ⊢
      exact ⟨by omega, a1⟩
  have hln : lnc r x full = q - p := by
    unfold lnc
    by_cases c : x < 8
    · rw [if_pos c]; rw [szf_1 c] at l5; exact l5
    · rw [if_neg c, (hph (by omega)).1, ← szf_ph (w := w) (x := x) (by omega)]; exact l5
  refine ⟨hs, hln, ?_, by omega⟩
  intro j
  induction j using Nat.strongRecOn with
  | _ j ih =>
    intro hj
    by_cases cj : j < p
    · rw [hk.2 j (by omega)]; exact h2 j cj
    · by_cases c : x < 8
      · have ej : j = r 3 0 := by rw [szf_1 c] at l5; omega
        rw [ej, m2 c, h1]
        exact ((TX_1 c).mp l7).symm
      · have h10 : 10 ≤ x := by omega
        have hs2 := (szf_pos hW x l1 l2).2 h10
        obtain ⟨b1, b2⟩ := hph h10
        have m3 := m3 c
        have m4 := m4 c
        rw [b2] at m3 m4
        obtain ⟨t, ht⟩ : ∃ t, j = r 3 0 + t := ⟨j - r 3 0, by omega⟩
        have htl : t < lnc r x full := by omega
        rw [ht, m3 t htl, ih _ (by omega) (by omega), h1]
        rw [TX_ph h10] at l7
        rw [szf_ph h10] at l5
        exact (l7 t (by omega)).symm
/-- and the reader stays one phrase behind -/
theorem RW_grow {m : Nat → Nat} {n full b p q x i : Nat} {w r : wS} (hfl : 16 ≤ full ∧ full ≤ 512) (hW : WB w) (hef : w 0 0 ≤ full) (hE : WE m n w b p) (hb : b ≤ w 4 0) (hI : RI r full i) (h : RW m full w r b p) (l1 : x < w 0 0) (l2 : ¬ (x = 8 ∨ x = 9)) (l3 : p < q) (l5 : szf w x = q - p) (l7 : TX m w b x p) (s : Nat) : RW m full (wgr (wcd w x p (q - p)) full x s) (ren r x full) b q := by
  obtain ⟨k1, k2, k3, k4⟩ := RW_code hfl.1 hW hE hb hI h l1 l2 l3 l5 l7
  have hle := RW_le hW hE hI h
  obtain ⟨h1, h2, h3, h4, h5, h6⟩ := h
  have hw10 : ¬ b < w 4 0 → w 0 0 = 10 := fun c => by have := hE.1; have := hW.1; omega
  have hW1 := hW.1
  have e4 : (wgr (wcd w x p (q - p)) full x s) 4 0 = w 4 0 + 1 := by rw [wgr_f _ _ _ _ (Or.inl rfl), wcd_4]
  have e6 : (wgr (wcd w x p (q - p)) full x s) 6 = (wcd w x p (q - p)) 6 := wgr_f _ _ _ _ (by decide)
  have e8 : (wgr (wcd w x p (q - p)) full x s) 8 = (wcd w x p (q - p)) 8 := wgr_f _ _ _ _ (by decide)
  have e0 : (wgr (wcd w x p (q - p)) full x s) 0 0 = if w 0 0 < full then w 0 0 + 1 else w 0 0 := by
    unfold wgr
    by_cases c : w 0 0 < full
    · rw [if_pos (by rw [wcd_0]; exact c), wad_0, wcd_0, if_pos c]
    · rw [if_neg (by rw [wcd_0]; exact c), wcd_0, if_neg c]
  have e3 : ∀ e, e < w 0 0 → (wgr (wcd w x p (q - p)) full x s) 3 e = w 3 e := by
    intro e he
    unfold wgr
    by_cases c : w 0 0 < full
    · rw [if_pos (by rw [wcd_0]; exact c), wad_3, wcd_0, if_neg (by omega), wcd_3]
    · rw [if_neg (by rw [wcd_0]; exact c), wcd_3]
  have r0' : (ren r x full) 0 0 = if 0 < r 7 0 ∧ r 0 0 < full then r 0 0 + 1 else r 0 0 := by
    rw [ren_o r x full (by decide) (by decide) (by decide) (by decide) (by decide), rg1_0]
  unfold RW
  rw [e4, e6, e8, e0, ren_6, ren_7, k2, k4, r0']
  refine ⟨rfl, k3, ⟨fun _ => by omega, fun _ => by omega⟩, fun _ => ⟨?_, ?_, ?_, ?_⟩, fun c => absurd (by omega) c, fun e a1 a2 => ?_⟩
  · rw [Nat.add_sub_cancel, wcd_8, if_pos rfl]; exact h1
  · rw [Nat.add_sub_cancel, wcd_6, if_pos rfl]
  · by_cases c : b < w 4 0
    · have h9 := (h4 c).2.2.1
      have h7 := h3.mpr c
      by_cases c2 : r 0 0 < full
      · rw [if_pos c2] at h9
        have hq : (if 0 < r 7 0 ∧ r 0 0 < full then r 0 0 + 1 else r 0 0) = r 0 0 + 1 := if_pos ⟨h7, c2⟩
        rw [hq, h9]
      · rw [if_neg c2] at h9
        have nz : ¬ (0 < r 7 0 ∧ r 0 0 < full) := fun z => c2 z.2
        rw [if_neg nz, ← h9]
    · have h9 := hw10 c
      have h7 : ¬ (0 < r 7 0 ∧ r 0 0 < full) := fun z => c (h3.mp z.1)
      rw [if_neg h7, h5 c, h9]
  · intro hlt
    by_cases c : b < w 4 0
    · have h7 := h3.mpr c
      by_cases c2 : r 0 0 < full
      · have := (h4 c).2.2.2 c2
        rw [if_pos ⟨h7, c2⟩]
        omega
      · have nz : ¬ (0 < r 7 0 ∧ r 0 0 < full) := fun z => c2 z.2
        rw [if_neg nz] at hlt
        omega
    · have h7 : ¬ (0 < r 7 0 ∧ r 0 0 < full) := fun z => c (h3.mp z.1)
      rw [if_neg h7, h5 c]
      omega
  · rw [ren_o r x full (f := 1) (by decide) (by decide) (by decide) (by decide) (by decide), ren_o r x full (f := 2) (by decide) (by decide) (by decide) (by decide) (by decide), rg1_1, rg1_2]
    by_cases cn : (0 < r 7 0 ∧ r 0 0 < full) ∧ e = r 0 0
    · have hbk := h3.mp cn.1.1
      obtain ⟨a3, a4, a5, a6⟩ := h4 hbk
      have a6 := a6 cn.1.2
      rw [if_pos cn.1.2] at a5
      have hew : e < w 0 0 := by omega
      obtain ⟨f1, f2, f3, f4, f5, f6⟩ := hE.2.1 e a1 hew
      have ei : b + (e - 10) = w 4 0 - 1 := by omega
      rw [if_pos cn, if_pos cn, e3 e hew, wcd_8, ei, if_neg (by omega)]
      rw [ei] at f2
      exact ⟨a3, by omega⟩
    · have he : e < r 0 0 := by
        by_cases z : 0 < r 7 0 ∧ r 0 0 < full
        · rw [if_pos z] at a2
          by_cases ze : e = r 0 0
          · exact absurd ⟨z, ze⟩ cn
          · omega
        · rw [if_neg z] at a2; exact a2
      obtain ⟨g1, g2⟩ := h6 e a1 he
      have := hE.1
      rw [if_neg cn, if_neg cn, e3 e (by omega), wcd_8, if_neg (by omega)]
      exact ⟨g1, g2⟩
theorem RW_clear {m : Nat → Nat} {full b p : Nat} {w r : wS} (h : RW m full w r b p) : RW m full (wu (wcd w 8 0 0) 0 0 10) (rdr r) (w 4 0 + 1) p := by
  obtain ⟨h1, h2, h3, h4, h5, h6⟩ := h
  have e4 : (wu (wcd w 8 0 0) 0 0 10) 4 0 = w 4 0 + 1 := by rw [wu_o (by decide), wcd_4]
  have r0' : (rdr r) 0 0 = 10 := by simp [rdr, wu_o, wu_s]
  have r7' : (rdr r) 7 0 = 0 := by simp [rdr, wu_s]
  have r3' : (rdr r) 3 0 = r 3 0 := by simp [rdr, wu_o]
  have r4' : (rdr r) 4 = r 4 := by simp [rdr, wu_o]
  unfold RW
  rw [e4, r0', r7', r3', r4']
  exact ⟨h1, h2, ⟨fun q => by omega, fun q => by omega⟩, fun q => by omega, fun _ => rfl, fun e a1 a2 => by omega⟩
theorem RW_start (m : Nat → Nat) (full : Nat) : RW m full w0 r0 0 0 :=
  ⟨rfl, fun j hj => absurd hj (Nat.not_lt_zero j), ⟨fun q => absurd q (by decide), fun q => absurd q (by decide)⟩, fun q => absurd q (by decide), fun _ => rfl, fun e a1 a2 => absurd a2 (by show ¬ e < 10; omega)⟩
theorem round_loop {m : Nat → Nat} {n full po wi : Nat} {wf rf : wS} {cs : Nat → Nat} (hfl : 16 ≤ full ∧ full ≤ 512) (hn : n ≤ 240) (hm : ∀ j, j < n → m j < 8) (hcs : ∀ k, k < wf 4 0 → cs k = wf 5 k) : ∀ (d : Nat) (w r : wS) (b p : Nat) (c : Bool), w 4 0 + d = wf 4 0 + 1 → WT m n full w b p → (c = false → RN m n full po wi wf w p) → (c = true → wcl w full po wi = true ∧ RN m n full po wi wf (wu (wcd w 8 0 0) 0 0 10) p) → RI r full (w 4 0) → rf = rda cs (wf 4 0) full d r (w 4 0) → ((c = true ∨ p < n → RW m full w r b p) ∧ r 3 0 = p ∧ ∀ j, j < p → r 4 j = m j) →
    rf 9 0 = 0 ∧ rf 3 0 = n ∧ ∀ j, j < n → rf 4 j = m j
  | 0, w, r, b, p, true, e, _, _, hc, _, _, _ => by have := (tr_clear (hc rfl).2).1; omega
  | 0, w, r, b, p, false, e, _, hR, _, _, _, _ => by have := (RN_kp (hR rfl)).2; omega
  | d + 1, w, r, b, p, true, e, hT, _, hc, hI, hrf, hW => by
    obtain ⟨hcl, hr⟩ := hc rfl
    obtain ⟨t1, t2, t3, t4, t5⟩ := tr_clear hr
    have e4 : (wu (wcd w 8 0 0) 0 0 10) 4 0 = w 4 0 + 1 := by rw [wu_o (by decide), wcd_4]
    have n1 : ¬ wf 4 0 ≤ w 4 0 := by omega
    have n9 : ¬ (8 : Nat) = 9 := by decide
    rw [rda, if_neg n1, hcs _ t1, t2, if_neg n9, if_pos rfl] at hrf
    have hRW := RW_clear (hW.1 (Or.inl rfl))
    exact round_loop hfl hn hm hcs d _ (rdr r) (w 4 0 + 1) p false (by omega) (wt_clear hfl hT hcl) (fun _ => hr) (fun h => by cases h) (by rw [e4]; exact rdr_RI hI (by omega)) (by rw [e4]; exact hrf) ⟨fun _ => hRW, hRW.1, hRW.2.1⟩
  | d + 1, w, r, b, p, false, e, hT, hR, _, hI, hrf, hW => by
    have hr := hR rfl
    by_cases hp : p < n
    · obtain ⟨x, q, ⟨l1, l2, l3, l4, l5, l7, l6⟩, ⟨g0, g5, g6, g7, g8⟩, hlast, hgrow⟩ := tr_code hfl hn hm hT hr hp
      obtain ⟨hWB, hef, hIw, hpn, hE, hb, hg⟩ := id hT
      have hRW := hW.1 (Or.inr hp)
      obtain ⟨k1, k2, k3, k4⟩ := RW_code hfl.1 hWB hE hb hI hRW l1 l2 l3 l5 l7
      have x8 : ¬ x = 8 := fun z => l2 (Or.inl z)
      have x9 : ¬ x = 9 := fun z => l2 (Or.inr z)
      have n1 : ¬ wf 4 0 ≤ w 4 0 := by omega
      rw [rda, if_neg n1, hcs _ g0, g5, if_neg x9, if_neg x8, if_pos k1] at hrf
      have hRI := (ren_RI hI x8 x9 k1).1
      by_cases cq : q < n
      · obtain ⟨hT', hr1, hr2⟩ := hgrow cq
        have hRW' := RW_grow hfl hWB hef hE hb hI hRW l1 l2 l3 l5 l7 (m q)
        obtain ⟨w', hw'⟩ : ∃ w', w' = wgr (wcd w x p (q - p)) full x (m q) := ⟨_, rfl⟩
        have e4 : w' 4 0 = w 4 0 + 1 := by rw [hw', wgr_f _ _ _ _ (Or.inl rfl), wcd_4]
        rw [← hw'] at hT' hr1 hr2 hRW'
        exact round_loop hfl hn hm hcs d w' (ren r x full) b q (wcl w' full po wi) (by omega) hT' (fun c => hr2 (by rw [c]; decide)) (fun c => ⟨c, hr1 c⟩) (by rw [e4]; exact hRI) (by rw [e4]; exact hrf) ⟨fun _ => hRW', hRW'.1, hRW'.2.1⟩
      · have eq : q = n := by omega
        subst eq
        obtain ⟨hT', hr'⟩ := hlast rfl
        exact round_loop hfl hn hm hcs d (wcd w x p (q - p)) (ren r x full) b q false (by rw [wcd_4]; omega) hT' (fun _ => hr') (fun h => by cases h) (by rw [wcd_4]; exact hRI) (by rw [wcd_4]; exact hrf) ⟨fun z => by
          rcases z with z | z
          · cases z
          · omega, k4, k3⟩
    · have hwf := RN_end hr (by omega)
      have ep : p = n := by have := hT.2.2.2.1; omega
      have h4 : wf 4 0 = w 4 0 + 1 := by rw [hwf, wcd_4]
      have g5 : wf 5 (w 4 0) = 9 := by rw [hwf, wcd_5, if_pos rfl]
      have n1 : ¬ wf 4 0 ≤ w 4 0 := by omega
      have n2 : ¬ w 4 0 + 1 < wf 4 0 := by omega
      rw [rda, if_neg n1, hcs _ (by omega), g5, if_pos rfl, if_neg n2] at hrf
      rw [hrf, ← ep]
      exact ⟨hI.2.2.2.2.2.2.1, hW.2.1, hW.2.2⟩
theorem alk_all {f g : Nat → Nat} : ∀ (d i : Nat), (∀ j, i ≤ j → j < i + d → f j = g j) → alk f g d i = i + d
  | 0, _, _ => rfl
  | d + 1, i, h => by
    rw [alk_d, if_pos (h i (Nat.le_refl _) (by omega)), alk_all d (i + 1) (fun j a b => h j (by omega) (by omega))]
    omega
/-- unspoiled, all is read as it was written -/
theorem unspoiled {a : Nat → Nat} (hA : AV a) (h : ∀ k, k < (wa a) 4 0 → a (250 + k) = 0) {S : xSt} (hQ : QI S a) : f6_reading S 5 = some (S, some (.int (-6))) ∧ f6_reading S 2 = some (S, some (.int 0)) := by
  have hfl := AV_pow hA
  obtain ⟨r1, r2, r3⟩ := round_loop (m := mm a) (n := a 3) (full := 2 ^ a 0) (po := a 1) (wi := a 2) (wf := wa a) (cs := ca a) (rf := ra a) hfl hA.2.2.2.1 (fun j hj => hA.2.2.2.2.1 j hj) (fun k hk => by
    show (wa a) 5 k ^^^ a (250 + k) = _
    rw [h k hk, Nat.xor_zero]) ((wa a) 4 0 + 1) w0 r0 0 0 false (by show 0 + _ = _; omega) (wt_start hfl) (fun _ => tr_start (mm a) (a 3) (2 ^ a 0) (a 1) (a 2)) (fun h => by cases h) (r0_RI (by omega)) rfl ⟨fun _ => RW_start _ _, rfl, fun j hj => absurd hj (Nat.not_lt_zero j)⟩
  obtain ⟨q0, q1, q2, q3, q4, q5⟩ := q_reading hA hQ
  rw [r2, Nat.min_self, alk_all (a 3) 0 (fun j _ hj => r3 j (by omega)), if_pos ⟨by omega, rfl⟩] at q5
  rw [r1] at q2
  exact ⟨q5, q2⟩
