/-! texts: what is read, and what it spells -/
/-- where the fault is: d characters from k on, at depth D, with a number N, P: a piece stands -/
def pf (ch : Nat → Nat) (p : Nat) : Nat → Nat → Nat → Nat → Nat → Int32
  | 0, _, D, N, P => if N = 0 ∧ D = 0 ∧ ¬ P = 0 then -6 else nI p
  | d + 1, k, D, N, P =>
    if 48 ≤ ch k ∧ ch k ≤ 57 then (if 10 * N + ch k - 48 = 0 ∨ 60 < 10 * N + ch k - 48 then nI k else pf ch p d (k + 1) D (10 * N + ch k - 48) P)
    else if 97 ≤ ch k ∧ ch k ≤ 104 then (if N = 1 then nI k else pf ch p d (k + 1) D 0 1)
    else if ch k = 40 then (if N = 1 ∨ D = 3 then nI k else pf ch p d (k + 1) (D + 1) 0 0)
    else if ch k = 41 then (if ¬ N = 0 ∨ D = 0 ∨ P = 0 then nI k else pf ch p d (k + 1) (D - 1) 0 P)
    else nI k
/-- f copied on, e signs from c on, each from blk ahead of it -/
def rpt (blk : Nat) : Nat → Nat → (Nat → Nat) → Nat → Nat
  | 0, _, f => f
  | e + 1, c, f => rpt blk e (c + 1) (fun j => if j = c then f (c - blk) else f j)
theorem rpt_add (blk : Nat) : ∀ (e1 e2 c : Nat) (f : Nat → Nat), rpt blk (e1 + e2) c f = rpt blk e2 (c + e1) (rpt blk e1 c f)
  | 0, e2, c, f => by rw [Nat.zero_add]; rfl
  | e1 + 1, e2, c, f => by
    rw [show e1 + 1 + e2 = e1 + e2 + 1 by omega, rpt, rpt, rpt_add blk e1 e2, show c + 1 + e1 = c + (e1 + 1) by omega]
theorem rpt_lo (blk : Nat) : ∀ (e c : Nat) (f : Nat → Nat) (j : Nat), j < c → rpt blk e c f j = f j
  | 0, _, _, _, _ => rfl
  | e + 1, c, f, j, h => by
    rw [rpt, rpt_lo blk e (c + 1) _ j (by omega)]
    show (if j = c then f (c - blk) else f j) = f j
    rw [if_neg (by omega)]
theorem rpt_lt (blk : Nat) (hb : 0 < blk) : ∀ (e c : Nat) (f : Nat → Nat), blk ≤ c → (∀ j, j < c → f j < 8) → ∀ j, j < c + e → rpt blk e c f j < 8
  | 0, c, f, _, h, j, hj => h j (by omega)
  | e + 1, c, f, hc, h, j, hj => by
    rw [rpt]
    refine rpt_lt blk hb e (c + 1) _ (by omega) (fun i hi => ?_) j (by omega)
    show (if i = c then f (c - blk) else f i) < 8
    by_cases ci : i = c
    · rw [if_pos ci]; exact h _ (by omega)
    · rw [if_neg ci]; exact h i (by omega)
theorem rpt_1 : ∀ (e c : Nat) (f : Nat → Nat) (j : Nat), 0 < c → rpt 1 e c f j = if c ≤ j ∧ j < c + e then f (c - 1) else f j
  | 0, c, f, j, _ => by rw [if_neg (by omega)]; rfl
  | e + 1, c, f, j, hc => by
    rw [rpt, rpt_1 e (c + 1) _ j (by omega)]
    show (if c + 1 ≤ j ∧ j < c + 1 + e then (if c + 1 - 1 = c then f (c - 1) else f (c + 1 - 1)) else (if j = c then f (c - 1) else f j)) = _
    rw [if_pos (show c + 1 - 1 = c by omega)]
    by_cases c1 : j = c
    · rw [if_neg (by omega), if_pos c1, if_pos (by omega)]
    · rw [if_neg c1]
      by_cases c2 : c ≤ j ∧ j < c + (e + 1)
      · rw [if_pos c2, if_pos (by omega)]
      · rw [if_neg c2, if_neg (by omega)]
/-- spelled: z 0 0 how many (241: too many), z 1 the signs, z 2 where the open ones begin, z 3 how many times -/
def zsg (z : wS) (s t : Nat) : wS := fun f i => if 240 < z 0 0 + t then (if f = 0 then 241 else z f i) else if f = 0 then z 0 0 + t else if f = 1 then (if z 0 0 ≤ i ∧ i < z 0 0 + t then s else z 1 i) else z f i
def zop (z : wS) (D t : Nat) : wS := fun f i => if f = 2 ∧ i = D then z 0 0 else if f = 3 ∧ i = D then t else z f i
def zcl (z : wS) (D : Nat) : wS := fun f i => if 240 < z 0 0 + (z 0 0 - z 2 D) * (z 3 D - 1) then (if f = 0 then 241 else z f i) else if f = 0 then z 0 0 + (z 0 0 - z 2 D) * (z 3 D - 1) else if f = 1 then rpt (z 0 0 - z 2 D) ((z 0 0 - z 2 D) * (z 3 D - 1)) (z 0 0) (z 1) i else z f i
def psp (ch : Nat → Nat) : Nat → Nat → Nat → Nat → wS → wS
  | 0, _, _, _, z => z
  | d + 1, k, D, N, z =>
    if 48 ≤ ch k ∧ ch k ≤ 57 then psp ch d (k + 1) D (10 * N + ch k - 48) z
    else if 97 ≤ ch k ∧ ch k ≤ 104 then psp ch d (k + 1) D 0 (zsg z (ch k - 97) (max N 1))
    else if ch k = 40 then psp ch d (k + 1) (D + 1) 0 (zop z D (max N 1))
    else psp ch d (k + 1) (D - 1) 0 (zcl z (D - 1))
def ZI (z : wS) (D : Nat) : Prop := z 0 0 ≤ 241 ∧ (∀ i, i < D → z 2 i ≤ z 0 0 ∧ 1 ≤ z 3 i ∧ z 3 i ≤ 60) ∧ (z 0 0 ≤ 240 → ∀ j, j < z 0 0 → z 1 j < 8)
theorem zsg_0 (z : wS) (s t : Nat) : zsg z s t 0 0 = if 240 < z 0 0 + t then 241 else z 0 0 + t := by
  show (if 240 < z 0 0 + t then (if 0 = 0 then 241 else z 0 0) else if 0 = 0 then z 0 0 + t else _) = _
  rw [if_pos rfl, if_pos rfl]
theorem zsg_1 {z : wS} {s t : Nat} (h : z 0 0 + t ≤ 240) (i : Nat) : zsg z s t 1 i = if z 0 0 ≤ i ∧ i < z 0 0 + t then s else z 1 i := by
  show (if 240 < z 0 0 + t then _ else if 1 = 0 then z 0 0 + t else if 1 = 1 then (if z 0 0 ≤ i ∧ i < z 0 0 + t then s else z 1 i) else z 1 i) = _
  rw [if_neg (by omega), if_neg (by decide), if_pos rfl]
theorem zsg_o (z : wS) (s t : Nat) {f : Nat} (h : 2 ≤ f) (i : Nat) : zsg z s t f i = z f i := by
  show (if 240 < z 0 0 + t then (if f = 0 then 241 else z f i) else if f = 0 then z 0 0 + t else if f = 1 then (if z 0 0 ≤ i ∧ i < z 0 0 + t then s else z 1 i) else z f i) = _
  rw [if_neg (show ¬ f = 0 by omega), if_neg (show ¬ f = 0 by omega), if_neg (show ¬ f = 1 by omega)]
  by_cases c : 240 < z 0 0 + t
  · rw [if_pos c]
  · rw [if_neg c]
theorem zop_0 (z : wS) (D t : Nat) : zop z D t 0 0 = z 0 0 := rfl
theorem zop_1 (z : wS) (D t i : Nat) : zop z D t 1 i = z 1 i := rfl
theorem zop_2 (z : wS) (D t i : Nat) : zop z D t 2 i = if i = D then z 0 0 else z 2 i := by
  show (if 2 = 2 ∧ i = D then z 0 0 else if 2 = 3 ∧ i = D then t else z 2 i) = _
  rw [if_neg (show ¬ (2 = 3 ∧ i = D) by omega)]
  by_cases c : i = D
  · rw [if_pos ⟨rfl, c⟩, if_pos c]
  · rw [if_neg (fun q => c q.2), if_neg c]
theorem zop_3 (z : wS) (D t i : Nat) : zop z D t 3 i = if i = D then t else z 3 i := by
  show (if 3 = 2 ∧ i = D then z 0 0 else if 3 = 3 ∧ i = D then t else z 3 i) = _
  rw [if_neg (show ¬ (3 = 2 ∧ i = D) by omega)]
  by_cases c : i = D
  · rw [if_pos ⟨rfl, c⟩, if_pos c]
  · rw [if_neg (fun q => c q.2), if_neg c]
theorem zcl_0 (z : wS) (D : Nat) : zcl z D 0 0 = if 240 < z 0 0 + (z 0 0 - z 2 D) * (z 3 D - 1) then 241 else z 0 0 + (z 0 0 - z 2 D) * (z 3 D - 1) := by
  show (if 240 < z 0 0 + (z 0 0 - z 2 D) * (z 3 D - 1) then (if 0 = 0 then 241 else z 0 0) else if 0 = 0 then z 0 0 + (z 0 0 - z 2 D) * (z 3 D - 1) else _) = _
  rw [if_pos rfl, if_pos rfl]
theorem zcl_1 {z : wS} {D : Nat} (h : z 0 0 + (z 0 0 - z 2 D) * (z 3 D - 1) ≤ 240) (i : Nat) : zcl z D 1 i = rpt (z 0 0 - z 2 D) ((z 0 0 - z 2 D) * (z 3 D - 1)) (z 0 0) (z 1) i := by
  show (if 240 < z 0 0 + (z 0 0 - z 2 D) * (z 3 D - 1) then _ else if 1 = 0 then z 0 0 + (z 0 0 - z 2 D) * (z 3 D - 1) else if 1 = 1 then rpt (z 0 0 - z 2 D) ((z 0 0 - z 2 D) * (z 3 D - 1)) (z 0 0) (z 1) i else z 1 i) = _
  rw [if_neg (by omega), if_neg (by decide), if_pos rfl]
theorem zcl_o (z : wS) (D : Nat) {f : Nat} (h : 2 ≤ f) (i : Nat) : zcl z D f i = z f i := by
  show (if 240 < z 0 0 + (z 0 0 - z 2 D) * (z 3 D - 1) then (if f = 0 then 241 else z f i) else if f = 0 then z 0 0 + (z 0 0 - z 2 D) * (z 3 D - 1) else if f = 1 then rpt (z 0 0 - z 2 D) ((z 0 0 - z 2 D) * (z 3 D - 1)) (z 0 0) (z 1) i else z f i) = _
  rw [if_neg (show ¬ f = 0 by omega), if_neg (show ¬ f = 0 by omega), if_neg (show ¬ f = 1 by omega)]
  by_cases c : 240 < z 0 0 + (z 0 0 - z 2 D) * (z 3 D - 1)
  · rw [if_pos c]
  · rw [if_neg c]
theorem zsg_ZI {z : wS} {D s t : Nat} (h : ZI z D) (hs : s < 8) (ht : 1 ≤ t) : ZI (zsg z s t) D := by
  obtain ⟨h1, h2, h3⟩ := h
  refine ⟨?_, fun i hi => ?_, fun hc j hj => ?_⟩
  · rw [zsg_0]
    by_cases c : 240 < z 0 0 + t
    · rw [if_pos c]; omega
    · rw [if_neg c]; omega
  · rw [zsg_o z s t (show 2 ≤ 2 by decide), zsg_o z s t (show 2 ≤ 3 by decide), zsg_0]
    obtain ⟨g1, g2, g3⟩ := h2 i hi
    refine ⟨?_, g2, g3⟩
    by_cases c : 240 < z 0 0 + t
    · rw [if_pos c]; omega
    · rw [if_neg c]; omega
  · rw [zsg_0] at hc hj
    by_cases c : 240 < z 0 0 + t
    · rw [if_pos c] at hc; omega
    · rw [if_neg c] at hj
      rw [zsg_1 (by omega)]
      by_cases cj : z 0 0 ≤ j ∧ j < z 0 0 + t
      · rw [if_pos cj]; exact hs
      · rw [if_neg cj]; exact h3 (by omega) j (by omega)
theorem zop_ZI {z : wS} {D t : Nat} (h : ZI z D) (ht : 1 ≤ t) (ht2 : t ≤ 60) : ZI (zop z D t) (D + 1) := by
  obtain ⟨h1, h2, h3⟩ := h
  refine ⟨h1, fun i hi => ?_, h3⟩
  rw [zop_2, zop_3, zop_0]
  by_cases c : i = D
  · rw [if_pos c, if_pos c]; exact ⟨Nat.le_refl _, ht, ht2⟩
  · rw [if_neg c, if_neg c]; exact h2 i (by omega)
theorem zcl_ZI {z : wS} {D : Nat} (h : ZI z (D + 1)) : ZI (zcl z D) D := by
  obtain ⟨h1, h2, h3⟩ := h
  obtain ⟨b1, b2, b3⟩ := h2 D (by omega)
  refine ⟨?_, fun i hi => ?_, fun hc j hj => ?_⟩
  · rw [zcl_0]
    by_cases c : 240 < z 0 0 + (z 0 0 - z 2 D) * (z 3 D - 1)
    · rw [if_pos c]; omega
    · rw [if_neg c]; omega
  · rw [zcl_o z D (show 2 ≤ 2 by decide), zcl_o z D (show 2 ≤ 3 by decide), zcl_0]
    obtain ⟨g1, g2, g3⟩ := h2 i (by omega)
    refine ⟨?_, g2, g3⟩
    by_cases c : 240 < z 0 0 + (z 0 0 - z 2 D) * (z 3 D - 1)
    · rw [if_pos c]; omega
    · rw [if_neg c]; omega
  · rw [zcl_0] at hc hj
    by_cases c : 240 < z 0 0 + (z 0 0 - z 2 D) * (z 3 D - 1)
    · rw [if_pos c] at hc; omega
    · rw [if_neg c] at hj
      rw [zcl_1 (by omega)]
      by_cases cb : 0 < z 0 0 - z 2 D
      · exact rpt_lt _ cb _ _ _ (by omega) (fun i hi => h3 (by omega) i hi) j hj
      · have e0 : z 0 0 - z 2 D = 0 := by omega
        rw [e0, Nat.zero_mul] at hj ⊢
        exact h3 (by omega) j (by omega)
/-- too many stays too many -/
theorem psp_241 (ch : Nat → Nat) : ∀ (d k D N : Nat) (z : wS), z 0 0 = 241 → psp ch d k D N z 0 0 = 241
  | 0, _, _, _, _, h => h
  | d + 1, k, D, N, z, h => by
    rw [psp]
    by_cases c1 : 48 ≤ ch k ∧ ch k ≤ 57
    · rw [if_pos c1]; exact psp_241 ch d _ _ _ z h
    · rw [if_neg c1]
      by_cases c2 : 97 ≤ ch k ∧ ch k ≤ 104
      · rw [if_pos c2]; exact psp_241 ch d _ _ _ _ (by rw [zsg_0, if_pos (by omega)])
      · rw [if_neg c2]
        by_cases c3 : ch k = 40
        · rw [if_pos c3]; exact psp_241 ch d _ _ _ _ h
        · rw [if_neg c3]; exact psp_241 ch d _ _ _ _ (by rw [zcl_0, if_pos (by omega)])
/-! characters -/
theorem in_n {c lo hi : Nat} (hc : c < 2 ^ 31) (hl : lo < 2 ^ 31) (hh : hi < 2 ^ 31) : (nI lo ≤ nI c ∧ nI c ≤ nI hi) ↔ (lo ≤ c ∧ c ≤ hi) := by rw [nI_leI hl hc, nI_leI hc hh]
theorem in7 (S : xSt) {c : Nat} (lo hi : Nat) (hc : c < 2 ^ 31) (hl : lo < 2 ^ 31) (hh : hi < 2 ^ 31) : f7_in S (nI c) (nI lo) (nI hi) = some (S, some (.int (if lo ≤ c ∧ c ≤ hi then 1 else 0))) := by
  rw [f7_in_ok]
  by_cases q : lo ≤ c ∧ c ≤ hi
  · rw [if_pos q, if_pos ((in_n hc hl hh).mpr q)]
  · rw [if_neg q, if_neg (fun p => q ((in_n hc hl hh).mp p))]
theorem digit6 (S : xSt) {c : Nat} (hc : c < 128) : f2_isDigit S (nI c) = some (S, some (.int (if 48 ≤ c ∧ c ≤ 57 then 1 else 0))) := by
  unfold f2_isDigit
  by_cases c1 : c < 48
  · have q : nI c < 48 := nI_lt (b := 48) c1 (by decide)
    rw [if_pos q, if_neg (by omega)]; exact if_pos (by decide)
  · have q : ¬ nI c < 48 := nI_nlt (b := 48) (by omega) (by omega)
    rw [if_neg q]
    by_cases c2 : 57 < c
    · have q2 : (57 : Int32) < nI c := nI_lt (a := 57) c2 (by omega)
      rw [if_pos q2, if_neg (by omega)]; exact if_pos (by decide)
    · have q2 : ¬ ((57 : Int32) < nI c) := nI_nlt (a := 57) (b := c) (by omega) (by decide)
      rw [if_neg q2, if_pos (by omega)]; exact if_pos (by decide)
theorem sign6 (S : xSt) {c : Nat} (hc : c < 128) : f2_isSign S (nI c) = some (S, some (.int (if 97 ≤ c ∧ c ≤ 104 then 1 else 0))) := by
  unfold f2_isSign
  by_cases c1 : c < 97
  · have q : nI c < 97 := nI_lt (b := 97) c1 (by decide)
    rw [if_pos q, if_neg (by omega)]; exact if_pos (by decide)
  · have q : ¬ nI c < 97 := nI_nlt (b := 97) (by omega) (by omega)
    rw [if_neg q]
    by_cases c2 : 105 ≤ c
    · have q2 : (105 : Int32) ≤ nI c := nI_le (a := 105) c2 (by omega)
      rw [if_pos q2, if_neg (by omega)]; exact if_pos (by decide)
    · have q2 : ¬ ((105 : Int32) ≤ nI c) := nI_ge (a := c) (b := 105) (by omega) (by decide)
      rw [if_neg q2, if_pos (by omega)]; exact if_pos (by decide)
theorem is_n {c v : Nat} (hc : c < 2 ^ 31) (hv : v < 2 ^ 31) : nI c = nI v ↔ c = v := nI_eq hc hv
theorem num6 {N c : Nat} (hN : N ≤ 60) (hc : c < 128) (h : 48 ≤ c) : nI N * 10 + nI c - 48 = nI (10 * N + c - 48) := by
  rw [show (10 : Int32) = nI 10 from rfl, pk_mul, nI_add, show (48 : Int32) = nI 48 from rfl, pk_sub (by omega), Nat.mul_comm N 10]
theorem num7 {N c : Nat} (hN : N ≤ 60) (hc : c < 128) (h : 48 ≤ c) : 10 * nI N + nI c - 48 = nI (10 * N + c - 48) := by
  rw [show (10 : Int32) = nI 10 from rfl, pk_mul, nI_add, show (48 : Int32) = nI 48 from rfl, pk_sub (by omega)]
theorem nI_n6 {k : Nat} (h : k < 2 ^ 31) : ¬ nI k = -6 := fun q => by
  have h0 : ¬ nI k < 0 := nI_pos h
  rw [q] at h0
  exact h0 (by decide)
/-- the pad's characters in the class -/
def CH (ch : Nat → Nat) (p : Nat) : Prop := p ≤ 80 ∧ ∀ j, j < p → 33 ≤ ch j ∧ ch j ≤ 126
theorem fault6 {ch : Nat → Nat} {p : Nat} (hch : CH ch p) {S : xSt} (hp : S 2 0 4 = nI p) (hs : ∀ j, j < p → S 15 0 j = nI (ch j)) : ∀ (d F k D N P : Nat), k + d = p → d < F → D ≤ 3 → N ≤ 60 → P ≤ 1 → f2_findFault_L9 F S (nI D) (nI N) (nI P) (nI k) = some (S, some (.int (pf ch p d k D N P)))
  | d, 0, _, _, _, _, _, h, _, _, _ => absurd h (Nat.not_lt_zero _)
  | 0, F + 1, k, D, N, P, e, _, hD, hN, hP => by
    have hp80 := hch.1
    show b2_findFault_L9 (f2_findFault_L9 F) S (nI D) (nI N) (nI P) (nI k) = _
    unfold b2_findFault_L9 f2_findFault_J149 f2_findFault_J161
    rw [hp, if_pos (nI_le (by omega) (by omega)), pf]
    by_cases c1 : N = 0
    · have q1 : nI N = 0 := by rw [c1]; rfl
      rw [if_pos q1]
      by_cases c2 : D = 0
      · have q2 : nI D = 0 := by rw [c2]; rfl
        rw [if_pos q2]
        by_cases c3 : P = 0
        · have q3 : nI P = 0 := by rw [c3]; rfl
          rw [if_pos q3, if_neg (fun q => q.2.2 c3)]
        · have q3 : ¬ nI P = 0 := nI_ne0 (by omega) (by omega)
          rw [if_neg q3, if_pos ⟨c1, c2, c3⟩]
      · have q2 : ¬ nI D = 0 := nI_ne0 (by omega) (by omega)
        rw [if_neg q2, if_neg (fun q => c2 q.2.1)]
    · have q1 : ¬ nI N = 0 := nI_ne0 (by omega) (by omega)
      rw [if_neg q1, if_neg (fun q => c1 q.1)]
  | d + 1, F + 1, k, D, N, P, e, hF, hD, hN, hP => by
    have hp80 := hch.1
    obtain ⟨l1, l2⟩ := hch.2 k (by omega)
    show b2_findFault_L9 (f2_findFault_L9 F) S (nI D) (nI N) (nI P) (nI k) = _
    unfold b2_findFault_L9 f2_findFault_J143
    rw [hp, if_neg (nI_ge (by omega) (by omega)), xat_ok (by omega) (by decide), hs k (by omega), digit6 S (by omega), xbI_eq, pf]
    by_cases c1 : 48 ≤ ch k ∧ ch k ≤ 57
    · rw [if_pos c1, if_pos c1, if_neg (by decide), num6 hN (by omega) c1.1]
      by_cases c2 : 10 * N + ch k - 48 = 0
      · have q2 : nI (10 * N + ch k - 48) = 0 := by rw [c2]; rfl
        rw [if_pos q2, if_pos (Or.inl c2)]
      · have q2 : ¬ nI (10 * N + ch k - 48) = 0 := nI_ne0 (by omega) (by omega)
        rw [if_neg q2]
        by_cases c3 : 60 < 10 * N + ch k - 48
        · have q3 : ¬ nI (10 * N + ch k - 48) ≤ 60 := nI_ge (a := 60) c3 (by omega)
          rw [if_neg q3, if_pos (Or.inr c3)]
        · have q3 : nI (10 * N + ch k - 48) ≤ 60 := nI_le (b := 60) (by omega) (by decide)
          rw [if_pos q3, if_neg (fun q => q.elim c2 c3), nI_1]
          exact fault6 hch hp hs d F (k + 1) D _ P (by omega) (by omega) hD (by omega) hP
    · rw [if_neg c1, if_neg c1, if_pos rfl, sign6 S (by omega), xbI_eq]
      by_cases c2 : 97 ≤ ch k ∧ ch k ≤ 104
      · rw [if_pos c2, if_pos c2, if_neg (by decide)]
        by_cases c3 : N = 1
        · have q3 : nI N = 1 := by rw [c3]; rfl
          rw [if_pos q3, if_pos c3]
        · have q3 : ¬ nI N = 1 := fun q => c3 (nI_inj (b := 1) (by omega) (by decide) q)
          rw [if_neg q3, if_neg c3, nI_1]
          exact fault6 hch hp hs d F (k + 1) D 0 1 (by omega) (by omega) hD (by omega) (by omega)
      · rw [if_neg c2, if_neg c2, if_pos rfl]
        by_cases c3 : ch k = 40
        · have q3 : nI (ch k) = 40 := by rw [c3]; rfl
          rw [if_pos q3, if_pos c3]
          by_cases c4 : N = 1
          · have q4 : nI N = 1 := by rw [c4]; rfl
            rw [if_pos q4, if_pos (Or.inl c4)]
          · have q4 : ¬ nI N = 1 := fun q => c4 (nI_inj (b := 1) (by omega) (by decide) q)
            rw [if_neg q4]
            by_cases c5 : D = 3
            · have q5 : nI D = 3 := by rw [c5]; rfl
              rw [if_pos q5, if_pos (Or.inr c5)]
            · have q5 : ¬ nI D = 3 := fun q => c5 (nI_inj (b := 3) (by omega) (by decide) q)
              rw [if_neg q5, if_neg (fun q => q.elim c4 c5), nI_1, nI_1]
              exact fault6 hch hp hs d F (k + 1) (D + 1) 0 0 (by omega) (by omega) (by omega) (by omega) (by omega)
        · have q3 : ¬ nI (ch k) = 40 := fun q => c3 (nI_inj (b := 40) (by omega) (by decide) q)
          rw [if_neg q3, if_neg c3]
          by_cases c4 : ch k = 41
          · have q4 : nI (ch k) = 41 := by rw [c4]; rfl
            rw [if_pos q4, if_pos c4]
            by_cases c5 : N = 0
            · have q5 : nI N = 0 := by rw [c5]; rfl
              rw [if_pos q5]
              by_cases c6 : D = 0
              · have q6 : nI D = 0 := by rw [c6]; rfl
                rw [if_pos q6, if_pos (Or.inr (Or.inl c6))]
              · have q6 : ¬ nI D = 0 := nI_ne0 (by omega) (by omega)
                rw [if_neg q6]
                by_cases c7 : P = 0
                · have q7 : nI P = 0 := by rw [c7]; rfl
                  rw [if_pos q7, if_pos (Or.inr (Or.inr c7))]
                · have q7 : ¬ nI P = 0 := nI_ne0 (by omega) (by omega)
                  have q8 : nI D + -1 = nI (D - 1) := by
                    obtain ⟨D', rfl⟩ : ∃ D', D = D' + 1 := ⟨D - 1, by omega⟩
                    rw [show D' + 1 - 1 = D' by omega, ← nI_pred D', Int32.sub_eq_add_neg]
                  rw [if_neg q7, if_neg (fun q => q.elim (fun q => q c5) (fun q => q.elim c6 c7)), nI_1, q8, c5]
                  exact fault6 hch hp hs d F (k + 1) (D - 1) 0 P (by omega) (by omega) (by omega) (by omega) hP
            · have q5 : ¬ nI N = 0 := nI_ne0 (by omega) (by omega)
              rw [if_neg q5, if_pos (Or.inl c5)]
          · have q4 : ¬ nI (ch k) = 41 := fun q => c4 (nI_inj (b := 41) (by omega) (by decide) q)
            rw [if_neg q4, if_neg c4]
