theorem f7_loop_ok {m : Nat → Nat} {n full po wi : Nat} (hfl : 16 ≤ full ∧ full ≤ 512) (hn : n ≤ 240) (hpo : po ≤ 2) (hwi : wi ≤ 32) : ∀ (d f : Nat) (S : xSt) (w : wS) (p : Nat), n ≤ p + d → p ≤ n → d < f → MT S w m n wi → WB w → w 0 0 ≤ full → WI w p →
    ∃ S', f7_write_L24 f S (nI po) (nI full) (nI p) (nI (w 10 0)) = f7_write_J340 S' ∧ MT S' (wr m n full po wi d w p) m n wi ∧ WB (wr m n full po wi d w p) ∧ (wr m n full po wi d w p) 0 0 ≤ full ∧ WI (wr m n full po wi d w p) n ∧ FM S S'
  | d, 0, _, _, _, _, _, h, _, _, _, _ => absurd h (Nat.not_lt_zero d)
  | 0, f + 1, S, w, p, h1, h2, h3, hT, hW, hef, hI => by
    have : p = n := by omega
    subst this
    refine ⟨S, ?_, hT, hW, hef, hI, FM.rf⟩
    show b7_write_L24 (f7_write_L24 f) S (nI po) (nI full) (nI p) (nI (w 10 0)) = _
    unfold b7_write_L24
    rw [xat_lit (v := 3) 3 rfl (by decide) (by decide), hT.2.2.1, if_pos (nI_le (Nat.le_refl _) (by omega))]
  | d + 1, f + 1, S, w, p, h1, h2, h3, hT, hW, hef, hI => by
    show ∃ S', b7_write_L24 (f7_write_L24 f) S (nI po) (nI full) (nI p) (nI (w 10 0)) = _ ∧ _
    by_cases hp : p < n
    · obtain ⟨S1, e1, hT1, hF1⟩ := f7_body_ok (f7_write_L24 f) hT hW hef hfl hI hp hn hpo hwi
      obtain ⟨g1, g2, g3, g4, g5⟩ := wst_ok (po := po) (wi := wi) hW hef hfl hI hp hn (fun j hj => (hT.2.2.2.2 j hj).2)
      obtain ⟨S2, e2, hT2, hW2, hef2, hI2, hF2⟩ := f7_loop_ok hfl hn hpo hwi d f S1 (wst m n full po wi w p) (wnx m n w p) (by omega) g5 (by omega) hT1 g1 g2 g3
      rw [wr, if_pos hp, e1, e2]
      exact ⟨S2, rfl, hT2, hW2, hef2, hI2, hF1.tr hF2⟩
    · have : p = n := by omega
      subst this
      rw [wr, if_neg hp]
      refine ⟨S, ?_, hT, hW, hef, hI, FM.rf⟩
      unfold b7_write_L24
      rw [xat_lit (v := 3) 3 rfl (by decide) (by decide), hT.2.2.1, if_pos (nI_le (Nat.le_refl _) (by omega))]
theorem f7_write_ok {S : xSt} {m : Nat → Nat} {n wd po wi : Nat} (h4 : 4 ≤ wd) (h9 : wd ≤ 9) (hn : n ≤ 240) (hpo : po ≤ 2) (hwi : wi ≤ 32) (hS : SM S m n wi) :
    ∃ S', f7_write S (nI wd) (nI po) = some (S', none) ∧ MB S' (wfin m n (2 ^ wd) po wi) ∧ MC S' (wfin m n (2 ^ wd) po wi) ∧ FM S S' := by
  have hfl := pow_in h4 h9
  obtain ⟨S3, e3, hB3, h17, h18, ho3, hF3⟩ := f7_beginBook_ok (xup (xup S 7 0 17 0) 7 0 18 0)
  have hF : FM S S3 := ((FM.rf.up7 (Or.inr (Or.inl rfl))).up7 (Or.inr (Or.inr rfl))).tr hF3
  have hT : MT S3 w0 m n wi := by
    refine ⟨hB3 w0 rfl, ⟨?_, ?_, ?_⟩, SM_fr hS hF⟩
    · rw [h17, xup_s, if_neg (by decide), xup_s, if_pos rfl]; rfl
    · intro i hi; simp [w0] at hi
    · rw [h18, xup_s, if_pos rfl]; rfl
  obtain ⟨S2, e2, hT2, hW2, hef2, ⟨⟨q, hq1, hq2⟩, -, -⟩, hF2⟩ := f7_loop_ok (po := po) (wi := wi) hfl hn hpo hwi (n + 1) xFU S3 w0 0 (by omega) (Nat.zero_le _) (by show n + 1 < 1000000; omega) hT w0_WB (by show 10 ≤ 2 ^ wd; omega) w0_WI
  obtain ⟨S5, e5, hB5, hC5, ho5, hF5⟩ := f7_writeCode_ok (x := 9) (p := 0) (k := 0) hT2.1 hT2.2.1 hW2.1 hW2.2.1 (by omega)
  rw [plv_9] at e5
  have e5 : f7_writeCode S2 9 (-6) 0 = some (S5, none) := e5
  refine ⟨S5, ?_, hB5, hC5, (hF.tr hF2).tr hF5⟩
  unfold f7_write
  rw [xlet_eq, xlet_eq, e3, shl_pow h9]
  simp only [xbV]
  rw [show (w0 10 0) = 0 from rfl, show nI 0 = (0 : Int32) from rfl] at e2
  rw [e2]
  unfold f7_write_J340
  rw [e5]
  rfl
theorem f7_bits_loop {S : xSt} {w : wS} (hC : MC S w) (hc : w 4 0 ≤ 300) : ∀ (d f i : Nat), i + d = w 4 0 → d < f → f7_bits_L4 f S (nI (bts (w 7) i)) (nI i) = some (S, some (.int (nI (bts (w 7) (w 4 0)))))
  | d, 0, _, _, h => absurd h (Nat.not_lt_zero d)
  | 0, f + 1, i, h1, h2 => by
    show b7_bits_L4 (f7_bits_L4 f) S _ (nI i) = _
    unfold b7_bits_L4
    rw [if_pos (by rw [hC.1]; exact nI_le (by omega) (by omega)), show i = w 4 0 by omega]
  | d + 1, f + 1, i, h1, h2 => by
    show b7_bits_L4 (f7_bits_L4 f) S _ (nI i) = _
    unfold b7_bits_L4
    rw [if_neg (by rw [hC.1]; exact nI_ge (by omega) (by omega)), xat_ok (by omega) (by decide), (hC.2.1 i (by omega)).2.1, nI_add, nI_1]
    exact f7_bits_loop hC hc d f (i + 1) (by omega) (by omega)
theorem f7_bits_ok {S : xSt} {w : wS} (hC : MC S w) (hc : w 4 0 ≤ 300) : f7_bits S = some (S, some (.int (nI (bts (w 7) (w 4 0))))) := by
  unfold f7_bits
  exact f7_bits_loop hC hc (w 4 0) xFU 0 (by omega) (by show w 4 0 < 1000000; omega)
/-- the settings, as the reference holds them -/
def ST0 (S : xSt) (wd po : Nat) : Prop := S 33 0 0 = nI wd ∧ S 33 0 1 = nI po
theorem f7_writeNow_ok {S : xSt} {m : Nat → Nat} {n wd po wi : Nat} (h4 : 4 ≤ wd) (h9 : wd ≤ 9) (hn : n ≤ 240) (hpo : po ≤ 2) (hwi : wi ≤ 32) (hS : SM S m n wi) (h0 : ST0 S wd po) :
    ∃ S', f7_writeNow S = some (S', none) ∧ MB S' (wfin m n (2 ^ wd) po wi) ∧ MC S' (wfin m n (2 ^ wd) po wi) ∧ FM S S' := by
  obtain ⟨S', e, h1, h2, h3⟩ := f7_write_ok h4 h9 hn hpo hwi hS
  refine ⟨S', ?_, h1, h2, h3⟩
  unfold f7_writeNow
  rw [xat_lit (v := 0) 0 rfl (by decide) (by decide), xat_lit (v := 1) 1 rfl (by decide) (by decide), h0.1, h0.2, e]
  rfl
