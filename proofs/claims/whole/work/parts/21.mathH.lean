/-! the reference writes -/
def SM (S : xSt) (m : Nat → Nat) (n wi : Nat) : Prop := S 33 0 3 = nI n ∧ S 33 0 2 = nI wi ∧ ∀ j, j < n → S 33 0 (10 + j) = nI (m j) ∧ m j < 8
theorem SM_fr {S S' : xSt} {m : Nat → Nat} {n wi : Nat} (h : SM S m n wi) (hF : FM S S') : SM S' m n wi := by
  unfold SM
  rw [hF.1 33 0 (by omega)]
  exact h
theorem f7_sum_loop {S : xSt} {w : wS} (hC : MC S w) (hc : w 4 0 ≤ 300) (a b : Nat) (hb : b ≤ w 4 0) : ∀ (d f i : Nat), i + d = b → d < f → a ≤ i →
    f7_sumUpTo_L11 f S (nI b) (nI (sml (w 6) a (i - a))) (nI i) = some (S, some (.int (nI (sml (w 6) a (b - a)))))
  | d, 0, i, _, h, _ => absurd h (Nat.not_lt_zero d)
  | 0, f + 1, i, h1, h2, h3 => by
    show b7_sumUpTo_L11 (f7_sumUpTo_L11 f) S (nI b) _ (nI i) = _
    unfold b7_sumUpTo_L11
    rw [if_pos (nI_le (by omega) (by omega)), show i = b by omega]
  | d + 1, f + 1, i, h1, h2, h3 => by
    show b7_sumUpTo_L11 (f7_sumUpTo_L11 f) S (nI b) _ (nI i) = _
    unfold b7_sumUpTo_L11
    rw [if_neg (nI_ge (by omega) (by omega)), xat_ok (by omega) (by decide), (hC.2.1 i (by omega)).2.2.2.1, nI_add, nI_1]
    have e1 : sml (w 6) a (i - a) + w 6 i = sml (w 6) a (i + 1 - a) := by
      rw [show i + 1 - a = (i - a) + 1 by omega, sml, show a + (i - a) = i by omega]
    rw [e1]
    exact f7_sum_loop hC hc a b hb d f (i + 1) (by omega) (by omega) (by omega)
theorem xat_lit {v : Int32} (j : Nat) {n : Nat} {k : Nat → Option xR} (e : v = nI j) (h : j < n) (hn : n < 2 ^ 31) : xat v n k = k j := xat_at e h hn
theorem f7_sumUpTo_ok {S : xSt} {w : wS} {m : Nat → Nat} {n wi b : Nat} (hC : MC S w) (hS : SM S m n wi) (hc : w 4 0 ≤ 300) (hb : b ≤ w 4 0) (hwb : wi ≤ b) : f7_sumUpTo S (nI b) = some (S, some (.int (nI (sml (w 6) (b - wi) wi)))) := by
  unfold f7_sumUpTo
  rw [xat_lit (v := 2) 2 rfl (by decide) (by decide), hS.2.1, pk_sub hwb]
  have h := f7_sum_loop hC hc (b - wi) b hb wi xFU (b - wi) (by omega) (by show wi < 1000000; omega) (Nat.le_refl _)
  rw [show b - wi - (b - wi) = 0 by omega, show b - (b - wi) = wi by omega] at h
  exact h
theorem f7_J319_0 (k : xSt → Int32 → Int32 → Int32 → Int32 → Option xR) (S : xSt) (a b c d : Int32) : f7_write_J319 k S a b c d 0 = k S a b c d := by
  unfold f7_write_J319 f7_write_J337
  rw [if_pos rfl]
theorem f7_J319_1 {S : xSt} {v : wS} (hB : MB S v) (hC : MC S v) (h10 : 10 ≤ v 0 0) (h512 : v 0 0 ≤ 512) (hc : v 4 0 < 300) (k : xSt → Int32 → Int32 → Int32 → Int32 → Option xR) (a b c d : Int32) :
    ∃ S', f7_write_J319 k S a b c d 1 = k S' a b c d ∧ MB S' (wu (wcd v 8 0 0) 0 0 10) ∧ MC S' (wu (wcd v 8 0 0) 0 0 10) ∧ FM S S' := by
  obtain ⟨S1, e1, hB1, hC1, ho1, hF1⟩ := f7_writeCode_ok (x := 8) (p := 0) (k := 0) hB hC h10 h512 hc
  obtain ⟨S2, e2, hB2, h17, h18, ho2, hF2⟩ := f7_beginBook_ok S1
  rw [plv_8] at e1
  have e1 : f7_writeCode S 8 (-6) 0 = some (S1, none) := e1
  refine ⟨S2, ?_, hB2 _ (by rw [wu_s, if_pos rfl]), ⟨?_, ?_, ?_⟩, hF1.tr hF2⟩
  · unfold f7_write_J319 f7_write_J337
    rw [if_neg (by decide), e1]
    simp only [xbV]
    rw [e2]
  · rw [h17, wu_o (by decide)]; exact hC1.1
  · intro i hi
    rw [wu_o (by decide)] at hi
    rw [ho2 42 (by decide) (by decide), ho2 43 (by decide) (by decide), ho2 44 (by decide) (by decide), ho2 45 (by decide) (by decide), ho2 46 (by decide) (by decide), wu_o (by decide), wu_o (by decide), wu_o (by decide), wu_o (by decide)]
    exact hC1.2.1 i hi
  · rw [h18, wu_o (by decide)]; exact hC1.2.2
theorem f7_J235_ok {S : xSt} {v : wS} {m : Nat → Nat} {n full po wi : Nat} (hB : MB S v) (hC : MC S v) (hS : SM S m n wi) (h10 : 10 ≤ v 0 0) (hef : v 0 0 ≤ full) (hfl : full ≤ 512) (hc : v 4 0 < 300) (hs : v 10 0 ≤ v 4 0) (hpo : po ≤ 2) (hwi : wi ≤ 32) (k : xSt → Int32 → Int32 → Int32 → Int32 → Option xR) (q : Int32) :
    ∃ S', f7_write_J235 k S (nI po) (nI full) q (nI (v 10 0)) = k S' (nI po) (nI full) q (nI ((wdc v full po wi) 10 0)) ∧ MB S' (wdc v full po wi) ∧ MC S' (wdc v full po wi) ∧ FM S S' := by
  have hlast : ∀ z : Int32, z = (if wcl v full po wi = true then 1 else 0) → ∃ S', f7_write_J319 k S (nI po) (nI full) q (nI (v 10 0)) z = k S' (nI po) (nI full) q (nI ((wdc v full po wi) 10 0)) ∧ MB S' (wdc v full po wi) ∧ MC S' (wdc v full po wi) ∧ FM S S' := by
    intro z hz
    unfold wdc
    by_cases c : wcl v full po wi = true
    · rw [if_pos c] at hz
      subst hz
      obtain ⟨S', e1, h1, h2, h3⟩ := f7_J319_1 hB hC h10 (by omega) hc k (nI po) (nI full) q (nI (v 10 0))
      rw [if_pos c]
      refine ⟨S', ?_, h1, h2, h3⟩
      rw [e1, wu_o (by decide), wcd_10]
    · rw [if_neg c] at hz
      subst hz
      rw [if_neg c, f7_J319_0]
      exact ⟨S, rfl, hB, hC, FM.rf⟩
  by_cases he : v 0 0 = full
  · have heI : S 7 0 11 = nI full := by rw [hB.1, he]
    have hp1 : (nI po = 1) ↔ po = 1 := ⟨fun h => nI_inj (b := 1) (by omega) (by decide) h, fun h => by rw [h]; rfl⟩
    have hp2 : (nI po = 2) ↔ po = 2 := ⟨fun h => nI_inj (b := 2) (by omega) (by decide) h, fun h => by rw [h]; rfl⟩
    unfold f7_write_J235
    rw [if_pos heI]
    by_cases h1 : po = 1
    · rw [if_pos (hp1.mpr h1)]
      unfold f7_write_J253
      rw [if_pos heI, if_neg (fun z => by have := hp2.mp z; omega)]
      exact hlast 1 (by rw [if_pos (by rw [wcl_eq]; simp [he, h1])])
    · rw [if_neg (fun z => h1 (hp1.mp z))]
      unfold f7_write_J252 f7_write_J253
      rw [if_pos heI]
      by_cases h2 : po = 2
      · rw [if_pos (hp2.mpr h2), xat_lit (v := 2) 2 rfl (by decide) (by decide), hS.2.1, hC.1, pk_sub hs, show (2 : Int32) * nI wi = nI (2 * wi) from pk_mul 2 wi]
        by_cases c : 2 * wi ≤ v 4 0 - v 10 0
        · rw [if_neg (nI_nlt c (by omega)), f7_sumUpTo_ok hC hS (by omega) (Nat.le_refl _) (by omega)]
          simp only [xbI]
          rw [xat_lit (v := 2) 2 rfl (by decide) (by decide), hS.2.1, hC.1, pk_sub (show wi ≤ v 4 0 by omega), f7_sumUpTo_ok hC hS (by omega) (by omega) (by omega), show v 4 0 - wi - wi = v 4 0 - 2 * wi by omega]
          simp only [xbI]
          unfold f7_write_J317
          by_cases z : nI (sml (v 6) (v 4 0 - wi) wi) < nI (sml (v 6) (v 4 0 - 2 * wi) wi)
          · rw [if_neg (fun q => Int32.lt_irrefl (Int32.lt_of_lt_of_le z q))]
            exact hlast 1 (by rw [if_pos (by rw [wcl_eq]; simp [he, h2, c, z])])
          · rw [if_pos (Int32.not_lt.mp z)]
            exact hlast 0 (by rw [if_neg (by rw [wcl_eq]; simp [h2, z])])
        · rw [if_pos (nI_lt (by omega) (by omega))]
          exact hlast 0 (by rw [if_neg (by rw [wcl_eq]; simp [h2, c])])
      · rw [if_neg (fun z => h2 (hp2.mp z))]
        exact hlast 0 (by rw [if_neg (by rw [wcl_eq]; simp [h1, h2])])
  · have heI : ¬ S 7 0 11 = nI full := by rw [hB.1]; exact fun z => he (nI_inj (by omega) (by omega) z)
    unfold f7_write_J235 f7_write_J252 f7_write_J253
    rw [if_neg heI, if_neg heI]
    exact hlast 0 (by rw [if_neg (by rw [wcl_eq]; simp [he])])
/-- the longest match in the reference -/
theorem f7_inner {S : xSt} {w : wS} {m : Nat → Nat} {n wi p : Nat} (hB : MB S w) (hW : WB w) (hS : SM S m n wi) (hn : n ≤ 240) (k24 : xSt → Int32 → Int32 → Int32 → Int32 → Option xR) (po full sn : Int32) : ∀ (d f x q : Nat), n ≤ q + d → q ≤ n → p < q → d + 1 < f → x < w 0 0 →
    f7_write_L53 k24 f S po full (nI p) sn (nI x) (nI (q - p)) 1 = f7_write_J137 k24 S po full (nI p) sn (nI (lm w m n d x q).1) (nI ((lm w m n d x q).2 - p))
  | d, 0, _, _, _, _, _, h, _ => absurd h (Nat.not_lt_zero _)
  | d, f + 1, x, q, h1, h2, h3, h4, h5 => by
    show b7_write_L53 k24 (f7_write_L53 k24 f) S po full (nI p) sn (nI x) (nI (q - p)) 1 = _
    unfold b7_write_L53
    have hw := hW.2.1
    have hpq : nI p + nI (q - p) = nI q := by rw [nI_add]; congr 1; omega
    rw [if_neg (by decide), xat_lit (v := 3) 3 rfl (by decide) (by decide), hS.1, hpq]
    by_cases hq : q < n
    · have hidx : (10 : Int32) + nI p + nI (q - p) = nI (10 + q) := by
        rw [show (10 : Int32) = nI 10 from rfl, nI_add, nI_add]; congr 1; omega
      obtain ⟨s1, s2⟩ := hS.2.2 q hq
      rw [if_neg (nI_ge hq (by omega)), hidx, xat_ok (by omega) (by decide), s1, f7_longer_ok hB hW (by omega) s2]
      simp only [xbI]
      match d, h1, h4 with
      | 0, h1, h4 => omega
      | d + 1, h1, h4 =>
        rw [lm]
        by_cases c : chl w x (m q) = 0
        · rw [if_pos c, if_pos (by decide), if_neg (fun z => z.2 c)]
          unfold f7_write_J103 f7_write_J117 f7_write_J131
          rw [if_pos rfl, if_pos rfl]
          match f, h4 with
          | f + 1, h4 =>
            show b7_write_L53 k24 (f7_write_L53 k24 f) S po full (nI p) sn (nI x) (nI (q - p) + 0) 0 = _
            unfold b7_write_L53
            rw [if_pos rfl, show nI (q - p) + 0 = nI (q - p) from by rw [show (0 : Int32) = nI 0 from rfl, nI_add]; rfl]
        · obtain ⟨g1, g2, g3, g4⟩ := chl_in hW c
          rw [if_neg c, if_neg (nI_pos (by omega)), if_pos ⟨hq, c⟩]
          unfold f7_write_J103 f7_write_J117 f7_write_J131
          rw [if_neg (by decide), if_neg (by decide), nI_1, show q - p + 1 = q + 1 - p by omega]
          exact f7_inner hB hW hS hn k24 po full sn d f (chl w x (m q)) (q + 1) (by omega) (by omega) (by omega) (by omega) g2
    · have : q = n := by omega
      subst this
      rw [if_pos (nI_le (Nat.le_refl _) (by omega))]
      cases d with
      | zero => rfl
      | succ d => rw [lm, if_neg (by omega)]
/-- the reference between two steps -/
def MT (S : xSt) (w : wS) (m : Nat → Nat) (n wi : Nat) : Prop := MB S w ∧ MC S w ∧ SM S m n wi
theorem f7_body_ok {S : xSt} {w : wS} {m : Nat → Nat} {n full po wi p : Nat} (k : xSt → Int32 → Int32 → Int32 → Int32 → Option xR) (hT : MT S w m n wi) (hW : WB w) (hef : w 0 0 ≤ full) (hfl : 16 ≤ full ∧ full ≤ 512) (hI : WI w p) (hp : p < n) (hn : n ≤ 240) (hpo : po ≤ 2) (hwi : wi ≤ 32) :
    ∃ S', b7_write_L24 k S (nI po) (nI full) (nI p) (nI (w 10 0)) = k S' (nI po) (nI full) (nI (wnx m n w p)) (nI ((wst m n full po wi w p) 10 0)) ∧ MT S' (wst m n full po wi w p) m n wi ∧ FM S S' := by
  obtain ⟨hB, hC, hS⟩ := hT
  have hm : ∀ j, j < n → m j < 8 := fun j hj => (hS.2.2 j hj).2
  obtain ⟨⟨q, hq1, hq2⟩, hs, hl⟩ := hI
  have h10 := hW.1
  have hw2 := hW.2.1
  have hmp := hm p hp
  obtain ⟨l1, l2, l3, l4, l5, l6⟩ := lm_ok hW m n p n (m p) (p + 1) (by omega) (by omega) (by omega) (by omega) (by omega) (by unfold szf; rw [if_pos hmp]; omega)
  have hinner := f7_inner (p := p) hB hW hS hn k (nI po) (nI full) (nI (w 10 0)) n xFU (m p) (p + 1) (by omega) (by omega) (by omega) (by show n + 1 < 1000000; omega) (by omega)
  unfold b7_write_L24
  rw [xat_lit (v := 3) 3 rfl (by decide) (by decide), hS.1, if_neg (nI_ge hp (by omega)), show (10 : Int32) + nI p = nI (10 + p) from nI_add 10 p, xat_ok (by omega) (by decide), (hS.2.2 p hp).1]
  rw [show p + 1 - p = 1 by omega, show nI 1 = (1 : Int32) from rfl] at hinner
  rw [hinner]
  unfold wst wnx
  generalize hr : lm w m n n (m p) (p + 1) = r at *
  obtain ⟨x, q'⟩ := r
  simp only at *
  clear hinner
  have hpl : plv x p = nI p := by unfold plv; rw [if_neg l2]
  obtain ⟨S1, e1, hB1, hC1, ho1, hF1⟩ := f7_writeCode_ok (x := x) (p := p) (k := q' - p) hB hC h10 hw2 (by omega)
  rw [hpl] at e1
  have hW1 := wcd_WB hW x p (q' - p)
  have hS1 := SM_fr hS hF1
  have hadd : nI p + nI (q' - p) = nI q' := by rw [nI_add]; congr 1; omega
  unfold f7_write_J137
  rw [e1]
  simp only [xbV]
  rw [xat_lit (v := 3) 3 rfl (by decide) (by decide), hS1.1, hadd]
  by_cases c : q' < n
  · rw [if_neg (nI_ge c (by omega)), if_pos c]
    unfold wgr
    by_cases he : (wcd w x p (q' - p)) 0 0 < full
    · have he0 : w 0 0 < full := by rw [wcd_0] at he; exact he
      rw [if_neg (by rw [hB1.1]; exact nI_ge he (by omega)), if_pos he, show (10 : Int32) + nI q' = nI (10 + q') from nI_add 10 q', xat_ok (by omega) (by decide), (hS1.2.2 q' c).1]
      obtain ⟨S4, e4, hB4, h17, h18, ho4, h40, hF4⟩ := f7_enter_ok (s := m q') hB1 (by rw [wcd_0]; exact h10) (by rw [wcd_0]; exact l1) (by rw [wcd_0]; omega)
      rw [e4]
      simp only [xbV]
      have h11 : S4 7 0 11 - 1 = nI (w 0 0) := by
        rw [hB4.1, wad_0, wcd_0]
        exact pk_sub (a := w 0 0 + 1) (b := 1) (by omega)
      have h41 : S4 41 0 (w 0 0) = nI (q' - p + 1) := by
        rw [MB_41 hB4 (by rw [wad_0, wcd_0]; omega)]
        unfold szf
        rw [if_neg (by omega), if_neg (by omega), wad_3, wcd_0, if_pos rfl, wcd_szf, l5]
      have hlng : S4 7 0 18 = nI (w 9 0) := by rw [h18, hC1.2.2, wcd_9]
      have hC4 : ∀ k0, k0 = nI (max (w 9 0) (q' - p + 1)) → MC (xup S4 7 0 18 k0) (wad (wcd w x p (q' - p)) x (m q')) := by
        intro k0 hk
        refine ⟨?_, ?_, ?_⟩
        · rw [xup_s, if_neg (by decide), h17, wad_4]; exact hC1.1
        · intro i hi
          rw [wad_4] at hi
          simp (disch := decide) only [xup_o, wad_5, wad_6, wad_7, wad_8]
          rw [ho4 42 (by decide) (by decide), ho4 43 (by decide) (by decide), ho4 44 (by decide) (by decide), ho4 45 (by decide) (by decide), ho4 46 (by decide) (by decide)]
          exact hC1.2.1 i hi
        · rw [xup_s, if_pos rfl, hk, wad_9, wcd_9, wcd_szf, l5]
      have hB4' : ∀ k0, MB (xup S4 7 0 18 k0) (wad (wcd w x p (q' - p)) x (m q')) := by
        intro k0
        refine ⟨?_, ?_, ?_⟩
        · rw [xup_s, if_neg (by decide)]; exact hB4.1
        · intro k hk
          simp (disch := decide) only [xup_o]
          exact hB4.2.1 k hk
        · simp (disch := decide) only [xup_o]; exact hB4.2.2
      have hWv := wad_WB hW1 (x := x) (s := m q') (by rw [wcd_0]; exact l1) l2 (hm q' c) (by rw [wcd_0]; omega)
      have fin : ∀ k0, k0 = nI (max (w 9 0) (q' - p + 1)) → ∃ S', f7_write_J226 k S4 (nI po) (nI full) (nI q') k0 = k S' (nI po) (nI full) (nI q') (nI ((wdc (wad (wcd w x p (q' - p)) x (m q')) full po wi) 10 0)) ∧ MT S' (wdc (wad (wcd w x p (q' - p)) x (m q')) full po wi) m n wi ∧ FM S S' := by
        intro k0 hk
        have hF5 : FM S (xup S4 7 0 18 k0) := (hF1.tr hF4).up7 (Or.inr (Or.inr rfl))
        have hS5 := SM_fr hS hF5
        obtain ⟨S6, e6, hB6, hC6, hF6⟩ := f7_J235_ok (full := full) (po := po) (hB4' k0) (hC4 k0 hk) hS5 hWv.1 (by rw [wad_0, wcd_0]; omega) hfl.2 (by rw [wad_4, wcd_4]; omega) (by rw [wad_10, wad_4]; omega) hpo hwi k (nI q')
        unfold f7_write_J226
        rw [xlet_eq]
        have hsince : (xup S4 7 0 18 k0) 7 0 17 = nI ((wad (wcd w x p (q' - p)) x (m q')) 10 0) := by
          rw [(hC4 k0 hk).1, wad_4, wad_10]
        rw [hsince, e6]
        exact ⟨S6, rfl, ⟨hB6, hC6, SM_fr hS5 hF6⟩, hF5.tr hF6⟩
      rw [h11, xat_ok (by omega) (by decide), h41, hlng]
      by_cases z : nI (q' - p + 1) ≤ nI (w 9 0)
      · rw [if_pos z]
        have := (nI_leI (by omega) (by omega)).mp z
        exact fin _ (by rw [Nat.max_eq_left (by omega)])
      · rw [if_neg z, xat_ok (by omega) (by decide), h41]
        have : ¬ (q' - p + 1 ≤ w 9 0) := fun h => z ((nI_leI (by omega) (by omega)).mpr h)
        exact fin _ (by rw [Nat.max_eq_right (by omega)])
    · have he0 : ¬ w 0 0 < full := by rw [wcd_0] at he; exact he
      rw [if_pos (by rw [hB1.1, wcd_0]; exact nI_le (by omega) (by omega)), if_neg he]
      obtain ⟨S6, e6, hB6, hC6, hF6⟩ := f7_J235_ok (full := full) (po := po) hB1 hC1 hS1 (by rw [wcd_0]; exact h10) (by rw [wcd_0]; exact hef) hfl.2 (by rw [wcd_4]; omega) (by rw [wcd_10, wcd_4]; omega) hpo hwi k (nI q')
      rw [wcd_10] at e6
      rw [e6]
      exact ⟨S6, rfl, ⟨hB6, hC6, SM_fr hS1 hF6⟩, hF1.tr hF6⟩
  · rw [if_pos (nI_le (by omega) (by omega)), if_neg c]
    unfold f7_write_J337
    rw [wcd_10]
    exact ⟨S1, rfl, ⟨hB1, hC1, hS1⟩, hF1⟩
