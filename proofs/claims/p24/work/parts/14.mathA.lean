/-! the mathematics: stores -/
theorem xup_o {S : xSt} {t o i : Nat} {v : Int32} {t' : Nat} (h : ¬ t' = t) : xup S t o i v t' = S t' := by
  funext o'
  simp only [xup, xua]
  rw [if_neg (fun q => h q.1)]
theorem xup_s {S : xSt} {t o i i' : Nat} {v : Int32} : xup S t o i v t o i' = if i' = i then v else S t o i' := by
  simp [xup, xua, upd_ap]
theorem xup_i {S : xSt} {t o i : Nat} {v : Int32} {o' : Nat} (h : ¬ o' = o) : xup S t o i v t o' = S t o' := by
  simp only [xup, xua]
  rw [if_neg (fun q => h q.2)]
theorem xua_o {S : xSt} {t o : Nat} {f : Nat → Int32} {t' : Nat} (h : ¬ t' = t) : xua S t o f t' = S t' := by
  funext o'
  simp only [xua]
  rw [if_neg (fun q => h q.1)]
theorem xua_i {S : xSt} {t o : Nat} {f : Nat → Int32} {o' : Nat} (h : ¬ o' = o) : xua S t o f t o' = S t o' := by
  simp only [xua]
  rw [if_neg (fun q => h q.2)]
theorem xat_at {i : Int32} {n j : Nat} {k : Nat → Option xR} (hi : i = nI j) (h : j < n) (hn : n < 2 ^ 31) : xat i n k = k j := by rw [hi]; exact xat_ok h hn
/-- what stays -/
def Fr (P : Nat → Nat → Bool) (S S' : xSt) : Prop := ∀ t o, P t o = false → S' t o = S t o
theorem Fr.rf {P : Nat → Nat → Bool} {S : xSt} : Fr P S S := fun _ _ _ => rfl
theorem Fr.tr {P : Nat → Nat → Bool} {S S' S'' : xSt} (h : Fr P S S') (h2 : Fr P S' S'') : Fr P S S'' := fun t o hp => (h2 t o hp).trans (h t o hp)
theorem Fr.up {P : Nat → Nat → Bool} {S S' : xSt} (h : Fr P S S') {t o i : Nat} {v : Int32} (hp : P t o = true) : Fr P S (xup S' t o i v) := by
  intro t' o' hp'
  by_cases he : t' = t ∧ o' = o
  · obtain ⟨rfl, rfl⟩ := he; rw [hp] at hp'; cases hp'
  · simp only [xup, xua]; rw [if_neg he]; exact h t' o' hp'
theorem Fr.ua {P : Nat → Nat → Bool} {S S' : xSt} (h : Fr P S S') {t o : Nat} {f : Nat → Int32} (hp : P t o = true) : Fr P S (xua S' t o f) := by
  intro t' o' hp'
  by_cases he : t' = t ∧ o' = o
  · obtain ⟨rfl, rfl⟩ := he; rw [hp] at hp'; cases hp'
  · simp only [xua]; rw [if_neg he]; exact h t' o' hp'
theorem Fr.mono {P Q : Nat → Nat → Bool} {S S' : xSt} (h : Fr P S S') (hpq : ∀ t o, Q t o = false → P t o = false) : Fr Q S S' := fun t o hq => h t o (hpq t o hq)
/-! the width of a code -/
def wid (e : Nat) : Nat := if e ≤ 16 then 4 else if e ≤ 32 then 5 else if e ≤ 64 then 6 else if e ≤ 128 then 7 else if e ≤ 256 then 8 else 9
theorem nI_inj {a b : Nat} (ha : a < 2 ^ 31) (hb : b < 2 ^ 31) (h : nI a = nI b) : a = b := (nI_eq ha hb).mp h
theorem shr_nI {a w : Nat} (ha : a < 2 ^ 31) (hw : w < 32) : nI a >>> (nI w &&& 31) = nI (a / 2 ^ w) := pk_shrN ha _ w (by
  have h : ∀ n, n < 32 → ((nI n &&& 31).toBitVec.smod 32).toNat = n := by decide
  exact h w hw)
theorem f5_bits_step (n : Nat) (S : xSt) {e w : Nat} (he : e < 2 ^ 30) (hw : w < 9) (h : ¬ e / 2 ^ w = 0) : f5_bitsOf_L6 (n + 1) S (nI e) (nI w) = f5_bitsOf_L6 n S (nI e) (nI (w + 1)) := by
  show b5_bitsOf_L6 (f5_bitsOf_L6 n) S (nI e) (nI w) = _
  unfold b5_bitsOf_L6
  rw [xat_at (i := 0) (j := 0) rfl (by decide) (by decide)]
  have h9 : ¬ (xSf 1 0 ≤ nI w) := nI_ge (a := w) (b := 9) hw (by decide)
  have h2 : e / 2 ^ w < 2 ^ 31 := Nat.lt_of_le_of_lt (Nat.div_le_self _ _) (by omega)
  have h3 : ¬ nI (e / 2 ^ w) = 0 := fun q => h (nI_inj (b := 0) h2 (by decide) q)
  rw [if_neg h9, shr_nI (by omega) (by omega), if_neg h3, nI_1]
theorem f5_bits_end (n : Nat) (S : xSt) {e w : Nat} (he : e < 2 ^ 30) (hw : w ≤ 9) (h : w = 9 ∨ e / 2 ^ w = 0) : f5_bitsOf_L6 (n + 1) S (nI e) (nI w) = some (S, some (.int (nI w))) := by
  show b5_bitsOf_L6 (f5_bitsOf_L6 n) S (nI e) (nI w) = _
  unfold b5_bitsOf_L6
  rw [xat_at (i := 0) (j := 0) rfl (by decide) (by decide)]
  by_cases h9 : xSf 1 0 ≤ nI w
  · rw [if_pos h9]
  · rw [if_neg h9]
    have hw9 : ¬ w = 9 := fun q => h9 (by subst q; decide)
    rw [shr_nI (by omega) (by omega), if_pos (by rw [h.resolve_left hw9]; rfl)]
theorem f5_bitsOf_ok (S : xSt) {e : Nat} (h1 : 1 ≤ e) (h2 : e ≤ 512) : f5_bitsOf S (nI e - 1) = some (S, some (.int (nI (wid e)))) := by
  have he : nI e - 1 = nI (e - 1) := pk_sub (a := e) (b := 1) h1
  unfold f5_bitsOf
  rw [xat_at (i := 0) (j := 0) rfl (by decide) (by decide), he]
  show f5_bitsOf_L6 (999994 + 1 + 1 + 1 + 1 + 1 + 1) S (nI (e - 1)) (nI 4) = _
  have hb : e - 1 < 2 ^ 30 := by omega
  unfold wid
  by_cases c1 : e ≤ 16
  · rw [if_pos c1, f5_bits_end _ _ hb (by decide) (Or.inr (by omega))]
  rw [if_neg c1, f5_bits_step _ _ hb (by decide) (by omega)]
  by_cases c2 : e ≤ 32
  · rw [if_pos c2, f5_bits_end _ _ hb (by decide) (Or.inr (by omega))]
  rw [if_neg c2, f5_bits_step _ _ hb (by decide) (by omega)]
  by_cases c3 : e ≤ 64
  · rw [if_pos c3, f5_bits_end _ _ hb (by decide) (Or.inr (by omega))]
  rw [if_neg c3, f5_bits_step _ _ hb (by decide) (by omega)]
  by_cases c4 : e ≤ 128
  · rw [if_pos c4, f5_bits_end _ _ hb (by decide) (Or.inr (by omega))]
  rw [if_neg c4, f5_bits_step _ _ hb (by decide) (by omega)]
  by_cases c5 : e ≤ 256
  · rw [if_pos c5, f5_bits_end _ _ hb (by decide) (Or.inr (by omega))]
  rw [if_neg c5, f5_bits_step _ _ hb (by decide) (by omega), f5_bits_end _ _ hb (by decide) (Or.inl rfl)]
/-! what writing is: w 0 0 entries, w 1 heads, w 2 last signs, w 3 sizes, w 4 0 codes, w 5 numbers, w 6 signs that a code stands for, w 7 entries that the book had, w 8 places, w 9 0 the longest, w 10 0 since -/
abbrev wS : Type := Nat → Nat → Nat
def wu (w : wS) (f i v : Nat) : wS := fun f' i' => if f' = f ∧ i' = i then v else w f' i'
theorem wu_o {w : wS} {f i v f' : Nat} (h : ¬ f' = f) : wu w f i v f' = w f' := by
  funext i'
  simp only [wu]
  rw [if_neg (fun q => h q.1)]
theorem wu_s {w : wS} {f i v i' : Nat} : wu w f i v f i' = if i' = i then v else w f i' := by simp [wu]
def chs (hd la : Nat → Nat) (x s : Nat) : Nat → Nat → Nat
  | 0, _ => 0
  | d + 1, k => if hd k = x ∧ la k = s then k else chs hd la x s d (k + 1)
def chl (w : wS) (x s : Nat) : Nat := chs (w 1) (w 2) x s (w 0 0 - 10) 10
def szf (w : wS) (x : Nat) : Nat := if x < 8 then 1 else if x < 10 then 0 else w 3 x
def lm (w : wS) (m : Nat → Nat) (n : Nat) : Nat → Nat → Nat → Nat × Nat
  | 0, x, q => (x, q)
  | d + 1, x, q => if q < n ∧ ¬ chl w x (m q) = 0 then lm w m n d (chl w x (m q)) (q + 1) else (x, q)
def wcd (w : wS) (x p k : Nat) : wS := wu (wu (wu (wu (wu w 5 (w 4 0) x) 6 (w 4 0) k) 7 (w 4 0) (w 0 0)) 8 (w 4 0) p) 4 0 (w 4 0 + 1)
def wad (w : wS) (x s : Nat) : wS := wu (wu (wu (wu (wu (wu w 1 (w 0 0) x) 2 (w 0 0) s) 3 (w 0 0) (szf w x + 1)) 0 0 (w 0 0 + 1)) 9 0 (max (w 9 0) (szf w x + 1))) 10 0 (w 4 0)
def sml (ln : Nat → Nat) (a : Nat) : Nat → Nat
  | 0 => 0
  | d + 1 => sml ln a d + ln (a + d)
def wcl (w : wS) (full po wi : Nat) : Bool := decide (w 0 0 = full) && (decide (po = 1) || (decide (po = 2) && decide (2 * wi ≤ w 4 0 - w 10 0) && decide (nI (sml (w 6) (w 4 0 - wi) wi) < nI (sml (w 6) (w 4 0 - 2 * wi) wi))))
def wgr (w : wS) (full x s : Nat) : wS := if w 0 0 < full then wad w x s else w
def wdc (w : wS) (full po wi : Nat) : wS := if wcl w full po wi = true then wu (wcd w 8 0 0) 0 0 10 else w
def wst (m : Nat → Nat) (n full po wi : Nat) (w : wS) (p : Nat) : wS :=
  let r := lm w m n n (m p) (p + 1)
  let w1 := wcd w r.1 p (r.2 - p)
  if r.2 < n then wdc (wgr w1 full r.1 (m r.2)) full po wi else w1
def wnx (m : Nat → Nat) (n : Nat) (w : wS) (p : Nat) : Nat := (lm w m n n (m p) (p + 1)).2
def wr (m : Nat → Nat) (n full po wi : Nat) : Nat → wS → Nat → wS
  | 0, w, _ => w
  | d + 1, w, p => if p < n then wr m n full po wi d (wst m n full po wi w p) (wnx m n w p) else w
def w0 : wS := fun f _ => if f = 0 then 10 else 0
def wfin (m : Nat → Nat) (n full po wi : Nat) : wS := wcd (wr m n full po wi (n + 1) w0 0) 9 0 0
