/-! areCodes from its start; the entries -/
theorem xrst_eq {S S' : xSt} (h : ∀ t, ¬ t = 33 → S' t = S t) : xrst S S' = S := by
  funext t o
  unfold xrst
  by_cases c : t = 33
  · rw [if_pos c]
  · rw [if_neg c, h t c]
theorem ac_fill {a : Nat → Nat} (hA : AV a) (hK : (wa a) 4 0 ≤ 64) {S0 : xSt} (hQ0 : QI S0 a) (i2 i3 i4 i5 : Int32) : ∀ (d F k : Nat) (S : xSt), k + d = (wa a) 4 0 → d < F → (∀ t, ¬ t = 33 → S t = S0 t) → (∀ i, i < k → S 33 0 i = nI ((wa a) 5 i) ∧ S 33 1 i = plv ((wa a) 5 i) ((wa a) 8 i) ∧ S 33 2 i = nI ((wa a) 6 i)) →
    ∃ S', fW_areCodes_L58 F S (nI ((wa a) 4 0)) i2 i3 i4 i5 (nI k) = fW_areCodes_J106 S' (nI ((wa a) 4 0)) i2 i3 i4 i5 ∧ AC S' a ∧ ∀ t, ¬ t = 33 → S' t = S0 t
  | d, 0, _, _, _, h, _, _ => absurd h (Nat.not_lt_zero _)
  | 0, F + 1, k, S, e, _, hS, hi => by
    refine ⟨S, ?_, ⟨QI_fr hQ0 hS, fun i h => hi i (by omega)⟩, hS⟩
    show bW_areCodes_L58 (fW_areCodes_L58 F) S (nI ((wa a) 4 0)) i2 i3 i4 i5 (nI k) = _
    unfold bW_areCodes_L58
    rw [if_pos (nI_le (by omega) (by omega))]
  | d + 1, F + 1, k, S, e, hF, hS, hi => by
    have hk : k < (wa a) 4 0 := by omega
    obtain ⟨S1, e1⟩ : ∃ S1, S1 = xup S 33 0 k (nI ((wa a) 5 k)) := ⟨_, rfl⟩
    obtain ⟨S2, e2⟩ : ∃ S2, S2 = xup S1 33 1 k (plv ((wa a) 5 k) ((wa a) 8 k)) := ⟨_, rfl⟩
    obtain ⟨S3, e3⟩ : ∃ S3, S3 = xup S2 33 2 k (nI ((wa a) 6 k)) := ⟨_, rfl⟩
    have h1 : ∀ t, ¬ t = 33 → S1 t = S0 t := fun t h => by rw [e1, xup_o h, hS t h]
    have h2 : ∀ t, ¬ t = 33 → S2 t = S0 t := fun t h => by rw [e2, xup_o h, h1 t h]
    have h3 : ∀ t, ¬ t = 33 → S3 t = S0 t := fun t h => by rw [e3, xup_o h, h2 t h]
    obtain ⟨S', f1, f2, f3⟩ := ac_fill hA hK hQ0 i2 i3 i4 i5 d F (k + 1) S3 (by omega) (by omega) h3 (fun i h => by
      have a0 : S3 33 0 i = if i = k then nI ((wa a) 5 k) else S 33 0 i := by rw [e3, xup_i (by decide), e2, xup_i (by decide), e1, xup_s]
      have a1 : S3 33 1 i = if i = k then plv ((wa a) 5 k) ((wa a) 8 k) else S 33 1 i := by rw [e3, xup_i (by decide), e2, xup_s, e1, xup_i (by decide)]
      have a2 : S3 33 2 i = if i = k then nI ((wa a) 6 k) else S 33 2 i := by rw [e3, xup_s, e2, xup_i (by decide), e1, xup_i (by decide)]
      rw [a0, a1, a2]
      by_cases c : i = k
      · rw [if_pos c, if_pos c, if_pos c, c]; exact ⟨rfl, rfl, rfl⟩
      · rw [if_neg c, if_neg c, if_neg c]; exact hi i (by omega))
    refine ⟨S', ?_, f2, f3⟩
    show bW_areCodes_L58 (fW_areCodes_L58 F) S (nI ((wa a) 4 0)) i2 i3 i4 i5 (nI k) = _
    unfold bW_areCodes_L58
    rw [if_neg (nI_ge hk (by omega)), (q_ofCode hA (QI_fr hQ0 hS) hk).1, xbI_eq, xat_ok (by omega) (by decide), xlet_eq, ← e1, (q_ofCode hA (QI_fr hQ0 h1) hk).2.2.2.1, xbI_eq, xat_ok (by omega) (by decide), xlet_eq, ← e2, (q_ofCode hA (QI_fr hQ0 h2) hk).2.2.2.2.1, xbI_eq, xat_ok (by omega) (by decide), xlet_eq, ← e3, nI_1]
    exact f1
theorem areCodes_ok {S : xSt} {a : Nat → Nat} (hA : AV a) (hQ : QI S a) (hK : (wa a) 4 0 ≤ 64) : hW_areCodes S = some (S, some (.int 1)) := by
  obtain ⟨c0, c1, c2, c3, c4, c5, c6, c9, c10, c11⟩ := q_count hA hQ
  obtain ⟨S1, e1⟩ : ∃ S1, S1 = xua (xua (xua S 33 0 (fun _ => 0)) 33 1 (fun _ => 0)) 33 2 (fun _ => 0) := ⟨_, rfl⟩
  have h1 : ∀ t, ¬ t = 33 → S1 t = S t := fun t h => by rw [e1, xua_o h, xua_o h, xua_o h]
  obtain ⟨S', f1, f2, f3⟩ := ac_fill hA hK hQ (nI (a 3)) (nI (2 ^ a 0)) (nI (a 1)) (nI (a 2)) ((wa a) 4 0) xFU 0 S1 (by omega) (by show (wa a) 4 0 < 1000000; omega) h1 (fun i h => absurd h (Nat.not_lt_zero i))
  have hl := ac_loop hA f2 hK ((wa a) 4 0) xFU w0 0 0 false (by show 0 + _ = _; omega) (by show (wa a) 4 0 < 1000000; omega) (wt_start (AV_pow hA)) (fun _ => tr_start _ _ _ _ _) (fun h => by cases h)
  have hf : fW_areCodes S = some (S', some (.int 1)) := by
    unfold fW_areCodes
    rw [c1, xbI_eq, c0, xbI_eq, c9, xbI_eq, c10, xbI_eq, c11, xbI_eq, xlet_eq, xlet_eq, xlet_eq, ← e1, shl_pow hA.1.2]
    rw [nI_0] at f1
    rw [f1]
    unfold fW_areCodes_J106
    exact hl
  unfold hW_areCodes
  rw [hf]
  show some (xrst S S', some (Value.int 1)) = _
  rw [xrst_eq f3]
/-- behind the last CLEAR -/
def lcb (f : Nat → Nat) : Nat → Nat
  | 0 => 0
  | k + 1 => if f k = 8 then k + 1 else lcb f k
theorem lcb_cong {f g : Nat → Nat} : ∀ {c : Nat}, (∀ i, i < c → f i = g i) → lcb f c = lcb g c
  | 0, _ => rfl
  | c + 1, h => by rw [lcb, lcb, lcb_cong (fun i hi => h i (by omega)), h c (by omega)]
theorem lcb_wcd (w : wS) (x p k : Nat) : lcb ((wcd w x p k) 5) (w 4 0 + 1) = if x = 8 then w 4 0 + 1 else lcb (w 5) (w 4 0) := by
  rw [lcb, wcd_5, if_pos rfl, lcb_cong (f := (wcd w x p k) 5) (g := w 5) (fun i hi => by rw [wcd_5, if_neg (by omega)])]
theorem tr_final {m : Nat → Nat} {n full po wi : Nat} {wf : wS} (hfl : 16 ≤ full ∧ full ≤ 512) (hn : n ≤ 240) (hm : ∀ j, j < n → m j < 8) : ∀ (d : Nat) (w : wS) (b p : Nat), n ≤ p + d → WT m n full w b p → b = lcb (w 5) (w 4 0) → RN m n full po wi wf w p → WB wf ∧ WE m n wf (lcb (wf 5) (wf 4 0)) n
  | d, w, b, p, hd, hT, hb, hR => by
    by_cases hp : p < n
    · cases d with
      | zero => omega
      | succ d =>
        obtain ⟨x, q, ⟨l1, l2, l3, l4, l5, l7, l6⟩, -, hlast, hgrow⟩ := tr_code hfl hn hm hT hR hp
        have hb1 : b = lcb ((wcd w x p (q - p)) 5) (w 4 0 + 1) := by rw [lcb_wcd, if_neg (fun z => l2 (Or.inl z))]; exact hb
        by_cases cq : q < n
        · obtain ⟨hT', hr1, hr2⟩ := hgrow cq
          by_cases c : wcl (wgr (wcd w x p (q - p)) full x (m q)) full po wi = true
          · refine tr_final hfl hn hm d _ _ q (by omega) (wt_clear hfl hT' c) ?_ (hr1 c)
            rw [wu_o (by decide), wu_o (by decide), wcd_4, lcb_wcd, if_pos rfl]
          · refine tr_final hfl hn hm d _ b q (by omega) hT' ?_ (hr2 c)
            rw [wgr_f _ _ _ _ (by decide), wgr_f _ _ _ _ (by decide), wcd_4]
            exact hb1
        · have eq : q = n := by omega
          obtain ⟨hT', hr'⟩ := hlast eq
          refine tr_final hfl hn hm d _ b n (by omega) hT' ?_ hr'
          rw [wcd_4, ← eq]
          exact hb1
    · have hwf := RN_end hR (by omega)
      have ep : p = n := by have := hT.2.2.2.1; omega
      subst ep
      rw [hwf, wcd_4, lcb_wcd, if_neg (by decide), ← hb]
      exact ⟨wcd_WB hT.1 9 0 0, WE_wcd hT.1 hT.2.2.2.2.1 (Nat.le_refl _) 0⟩
theorem AV_final {a : Nat → Nat} (hA : AV a) : WE (mm a) (a 3) (wa a) (lcb ((wa a) 5) ((wa a) 4 0)) (a 3) :=
  (tr_final (AV_pow hA) hA.2.2.2.1 (fun j hj => hA.2.2.2.2.1 j hj) (a 3) w0 0 0 (by omega) (wt_start (AV_pow hA)) rfl (tr_start _ _ _ (a 1) (a 2))).2
theorem ae_first {S : xSt} {a : Nat → Nat} (hA : AV a) (hQ : QI S a) : ∀ (d F k : Nat), k + d = (wa a) 4 0 → d < F → fW_areEntries_L10 F S (nI ((wa a) 4 0)) (nI (lcb ((wa a) 5) k)) (nI k) = fW_areEntries_J40 S (nI (lcb ((wa a) 5) ((wa a) 4 0)))
  | d, 0, _, _, h => absurd h (Nat.not_lt_zero _)
  | 0, F + 1, k, e, _ => by
    have hc := (AV_wfin hA).2.2.2.1
    show bW_areEntries_L10 (fW_areEntries_L10 F) S (nI ((wa a) 4 0)) (nI (lcb ((wa a) 5) k)) (nI k) = _
    unfold bW_areEntries_L10
    rw [if_pos (nI_le (by omega) (by omega)), show k = (wa a) 4 0 by omega]
  | d + 1, F + 1, k, e, hF => by
    have hc := (AV_wfin hA).2.2.2.1
    have ih := ae_first hA hQ d F (k + 1) (by omega) (by omega)
    rw [lcb] at ih
    show bW_areEntries_L10 (fW_areEntries_L10 F) S (nI ((wa a) 4 0)) (nI (lcb ((wa a) 5) k)) (nI k) = _
    unfold bW_areEntries_L10 fW_areEntries_J33
    rw [if_neg (nI_ge (by omega) (by omega)), (q_ofCode hA hQ (by omega)).1, xbI_eq, nI_1]
    by_cases c : (wa a) 5 k = 8
    · rw [if_pos c] at ih
      rw [if_pos (show nI ((wa a) 5 k) = 8 by rw [c]; rfl)]
      exact ih
    · rw [if_neg c] at ih
      have h5 := AV_code hA (k := k) (by omega)
      have n8 : ¬ nI ((wa a) 5 k) = 8 := fun z => c (nI_inj (b := 8) (by omega) (by decide) z)
      rw [if_neg n8]
      exact ih
theorem ae_second {S : xSt} {a : Nat → Nat} (hA : AV a) (hQ : QI S a) : ∀ (d F e : Nat), e + d = (wa a) 0 0 → d < F → fW_areEntries_L42 F S (nI (lcb ((wa a) 5) ((wa a) 4 0))) (nI e) = some (S, some (.int 1))
  | d, 0, _, _, h => absurd h (Nat.not_lt_zero _)
  | 0, F + 1, e, e9, _ => by
    obtain ⟨hW, hef, -⟩ := AV_wfin hA
    have hc := hW.2.1
    show bW_areEntries_L42 (fW_areEntries_L42 F) S _ (nI e) = _
    unfold bW_areEntries_L42 fW_areEntries_J191
    rw [(q_count hA hQ).2.2.2.2.1, xbI_eq, if_pos (nI_le (by omega) (by omega)), (q_count hA hQ).2.2.2.2.1, xbI_eq, q_entry_no hA hQ, xbI_eq, if_pos rfl, x1]
  | d + 1, F + 1, e, e9, hF => by
    obtain ⟨hW, hef, -, hc4, -⟩ := AV_wfin hA
    have hc := hW.2.1
    have hn := hA.2.2.2.1
    have ih := ae_second hA hQ d F (e + 1) (by omega) (by omega)
    have hJ : fW_areEntries_J185 (fW_areEntries_L42 F) S (nI (lcb ((wa a) 5) ((wa a) 4 0))) (nI e) = some (S, some (.int 1)) := by
      unfold fW_areEntries_J185
      rw [nI_1]
      exact ih
    have he : e < (wa a) 0 0 := by omega
    obtain ⟨q0, q1, q2⟩ := q_entry hA hQ he
    show bW_areEntries_L42 (fW_areEntries_L42 F) S _ (nI e) = _
    unfold bW_areEntries_L42
    rw [(q_count hA hQ).2.2.2.2.1, xbI_eq, if_neg (nI_ge he (by omega)), q0, xbI_eq]
    by_cases c : 10 ≤ e
    · have hE := AV_final hA
      obtain ⟨e1, e2, e3, e4, e5, e6⟩ := hE.2.1 e c he
      have hj : lcb ((wa a) 5) ((wa a) 4 0) + (e - 10) < (wa a) 4 0 := by have := hE.1; omega
      obtain ⟨g1, g2, g3, g4⟩ := hW.2.2 e c he
      obtain ⟨o0, o1, o2, o3, o4, o5⟩ := q_ofCode hA hQ hj
      have c10 : (10 : Int32) ≤ nI e := nI_le (a := 10) c (by omega)
      rw [e1, plv_no g2] at o3
      rw [if_neg (by omega)] at q1 q2
      have hs : nI ((wa a) 8 (lcb ((wa a) 5) ((wa a) 4 0) + (e - 10))) + nI (szf (wa a) e) - 1 = nI ((wa a) 8 (lcb ((wa a) 5) ((wa a) 4 0) + (e - 10)) + (wa a) 6 (lcb ((wa a) 5) ((wa a) 4 0) + (e - 10))) := by
        rw [szf_ph c, ← e2, nI_add, ← Nat.add_assoc]
        exact nI_pred _
      rw [if_pos c10, ix10 c, o4, xbI_eq, if_pos (by rw [szf_ph c, ← e2, nI_1]), q2, xbI_eq, o0, xbI_eq, if_pos (by rw [e1]), q1, xbI_eq, o3, xbI_eq, hs, q_sign hA hQ (by omega), xbI_eq, if_pos (by rw [e5]), hJ]
    · have c10 : ¬ ((10 : Int32) ≤ nI e) := nI_ge (a := e) (b := 10) (by omega) (by decide)
      rw [if_pos (by omega)] at q1 q2
      rw [if_neg c10]
      by_cases c8 : 8 ≤ e
      · have d8 : (8 : Int32) ≤ nI e := nI_le (a := 8) c8 (by omega)
        have hs : szf (wa a) e = 0 := by unfold szf; rw [if_neg (by omega), if_pos (by omega)]
        rw [if_neg (by omega)] at q1
        rw [if_pos d8]
        unfold fW_areEntries_J78
        rw [if_pos (by rw [hs]; rfl), q1, xbI_eq, if_pos d8]
        unfold fW_areEntries_J99
        rw [if_pos rfl, q2, xbI_eq, if_pos rfl, hJ]
      · have d8 : ¬ ((8 : Int32) ≤ nI e) := nI_ge (a := e) (b := 8) (by omega) (by decide)
        have hs : szf (wa a) e = 1 := szf_1 (by omega)
        rw [if_pos (by omega)] at q1
        rw [if_neg d8]
        unfold fW_areEntries_J78
        rw [if_pos (by rw [hs]; rfl), q1, xbI_eq, if_neg d8]
        unfold fW_areEntries_J99
        rw [if_pos rfl, q2, xbI_eq, if_pos rfl, hJ]
theorem areEntries_ok {S : xSt} {a : Nat → Nat} (hA : AV a) (hQ : QI S a) : fW_areEntries S = some (S, some (.int 1)) := by
  obtain ⟨hW, hef, -, hc, -⟩ := AV_wfin hA
  have h5 := hW.2.1
  have h1 := ae_first hA hQ ((wa a) 4 0) xFU 0 (by omega) (by show (wa a) 4 0 < 1000000; omega)
  have h2 := ae_second hA hQ ((wa a) 0 0) xFU 0 (by omega) (by show (wa a) 0 0 < 1000000; omega)
  unfold fW_areEntries
  rw [(q_count hA hQ).2.1, xbI_eq]
  exact h1.trans h2
