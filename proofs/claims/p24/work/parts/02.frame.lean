/-! the store: tag, instance, place -/
abbrev xSt : Type := Nat → Nat → Nat → Int32
abbrev xR : Type := xSt × Option Value
def xua (S : xSt) (t o : Nat) (f : Nat → Int32) : xSt := fun t' o' => if t' = t ∧ o' = o then f else S t' o'
def xup (S : xSt) (t o i : Nat) (v : Int32) : xSt := xua S t o (upd (S t o) i v)
theorem xua_s (S : xSt) (t o : Nat) (f : Nat → Int32) : xua S t o f t o = f := by simp [xua]
theorem xua_n (S : xSt) {t o t' o' : Nat} (f : Nat → Int32) (h : ¬ (t' = t ∧ o' = o)) : xua S t o f t' o' = S t' o' := by simp only [xua, if_neg h]
def xbI (x : Option xR) (k : xSt → Int32 → Option xR) : Option xR := match x with
  | some (S, some (.int r)) => k S r
  | _ => none
def xbV (x : Option xR) (k : xSt → Option xR) : Option xR := match x with
  | some (S, none) => k S
  | _ => none
def xat (i : Int32) (n : Nat) (k : Nat → Option xR) : Option xR := if ¬ (i < 0 ∨ n ≤ i.toNatClampNeg) then k i.toNatClampNeg else none
def xlet (v : xSt) (k : xSt → Option xR) : Option xR := k v
def xne (c : Prop) [Decidable c] (k : Option xR) : Option xR := if c then k else none
theorem xbI_inv {x : Option xR} {k : xSt → Int32 → Option xR} {y : xR} (h : xbI x k = some y) : ∃ S r, x = some (S, some (.int r)) ∧ k S r = some y := by
  unfold xbI at h
  split at h
  · exact ⟨_, _, rfl, h⟩
  · cases h
theorem xbV_inv {x : Option xR} {k : xSt → Option xR} {y : xR} (h : xbV x k = some y) : ∃ S, x = some (S, none) ∧ k S = some y := by
  unfold xbV at h
  split at h
  · exact ⟨_, rfl, h⟩
  · cases h
theorem xat_inv {i : Int32} {n : Nat} {k : Nat → Option xR} {y : xR} (h : xat i n k = some y) : vp_in i n ∧ k i.toNatClampNeg = some y := by
  unfold xat at h
  split at h
  · exact ⟨by assumption, h⟩
  · cases h
theorem xlet_inv {v : xSt} {k : xSt → Option xR} {y : xR} (h : xlet v k = some y) : ∃ S, v = S ∧ k S = some y := ⟨v, rfl, h⟩
theorem xne_inv {c : Prop} [Decidable c] {k : Option xR} {y : xR} (h : xne c k = some y) : c ∧ k = some y := by
  unfold xne at h
  split at h
  · exact ⟨by assumption, h⟩
  · cases h
theorem xif_t {c : Prop} [Decidable c] {α : Type} {a b : α} {y : α} (hc : c) (h : (if c then a else b) = y) : a = y := by rw [if_pos hc] at h; exact h
theorem xif_f {c : Prop} [Decidable c] {α : Type} {a b : α} {y : α} (hc : ¬ c) (h : (if c then a else b) = y) : b = y := by rw [if_neg hc] at h; exact h
/-! the world: D, addresses, which (tag, instance) there are, classes of the arrays (int, boolean, byte, State), the static rows -/
abbrev xK : Type := va_G × (Nat → Nat → Nat) × List (Nat × Nat) × (Nat → ClassId) × (Nat → Nat) × (Nat → Int32)
def xad (K : xK) : Nat → Nat → Nat := K.2.1
def xvl (K : xK) : List (Nat × Nat) := K.2.2.1
def xcy (K : xK) : Nat → ClassId := K.2.2.2.1
def xsa (K : xK) : Nat → Nat := K.2.2.2.2.1
/-- the script: at xsa K 3, xsa K 4 ints -/
def xxs (K : xK) : Nat → Int32 := K.2.2.2.2.2
def xr (K : xK) (t o : Nat) : Value := .ref (xad K t o)
def xrs (K : xK) (k : Nat) : Value := .ref (xsa K k)
def xfs (K : xK) (f : Nat → Int32) (t o : Nat) : List Value := match t with
  | 0 => [xr K 10 o, xr K 11 o, xr K 12 o, xr K 13 o, .int (f 4)]
  | 1 => [xr K 14 o, .int (f 1), .int (f 2)]
  | 2 => [xr K 15 o, xr K 16 o, xr K 17 o, xr K 18 o, .int (f 4)]
  | 3 => [xr K 19 o, .int (f 1), .int (f 2), .int (f 3), .int (f 4), .int (f 5), xr K 20 o, xr K 21 o, .int (f 8), .int (f 9), .int (f 10)]
  | 4 => [xr K 22 o, xr K 23 o, xr K 24 o, .int (f 3)]
  | 5 => [xr K 0 o, xr K 25 o, xr K 26 o, xr K 27 o, xr K 28 o, xr K 29 o, .int (f 6), .int (f 7), .int (f 8), .int (f 9), .int (f 10), .int (f 11)]
  | 6 => [xr K 4 0, xr K 1 0, xr K 30 0, xr K 31 0, xr K 2 0, xr K 5 0, xr K 3 0, xr K 32 0, xr K 5 1, xr K 3 1, xr K 32 1]
  | 7 => []
  | _ => []
def xE (K : xK) (f : Nat → Int32) (t o : Nat) : va_E := match t with
  | 0 => .inr (0, xfs K f 0 o)
  | 1 => .inr (1, xfs K f 1 o)
  | 2 => .inr (2, xfs K f 2 o)
  | 3 => .inr (3, xfs K f 3 o)
  | 4 => .inr (4, xfs K f 4 o)
  | 5 => .inr (5, xfs K f 5 o)
  | 6 => .inr (6, xfs K f 6 o)
  | 7 => .inr (7, xfs K f 7 o)
  | 10 => .inl (xcy K 0, 512, .inl f)
  | 11 => .inl (xcy K 0, 512, .inl f)
  | 12 => .inl (xcy K 0, 512, .inl f)
  | 13 => .inl (xcy K 0, 4096, .inl f)
  | 14 => .inl (xcy K 3, 6, .inr (.inr (.inr (.inr (fun i => some (xad K 4 (1 + i)))))))
  | 15 => .inl (xcy K 0, 80, .inl f)
  | 16 => .inl (xcy K 0, 240, .inl f)
  | 17 => .inl (xcy K 0, 3, .inl f)
  | 18 => .inl (xcy K 0, 3, .inl f)
  | 19 => .inl (xcy K 0, 39621, .inl f)
  | 20 => .inl (xcy K 0, 512, .inl f)
  | 21 => .inl (xcy K 0, 512, .inl f)
  | 22 => .inl (xcy K 0, 3, .inl f)
  | 23 => .inl (xcy K 0, 240, .inl f)
  | 24 => .inl (xcy K 0, 281, .inl f)
  | 25 => .inl (xcy K 0, 281, .inl f)
  | 26 => .inl (xcy K 0, 281, .inl f)
  | 27 => .inl (xcy K 0, 281, .inl f)
  | 28 => .inl (xcy K 0, 281, .inl f)
  | 29 => .inl (xcy K 0, 281, .inl f)
  | 30 => .inl (xcy K 3, 2, .inr (.inr (.inr (.inr (fun i => some (xad K 4 (7 + i)))))))
  | 31 => .inl (xcy K 1, 2, .inl f)
  | 32 => .inl (xcy K 0, 281, .inl f)
  | 33 => .inl (xcy K 0, 64, .inl f)
  | _ => .inl (xcy K 0, 0, .inl f)
def xws (K : xK) (S : xSt) : va_W := (xvl K).map fun q => (xad K q.1 q.2, xE K (S q.1 q.2) q.1 q.2)
def xtys (K : xK) : List (ClassId × FieldType) := [(xcy K 0, .int), (xcy K 1, .boolean), (xcy K 1, .boolean), (xcy K 3, .object "GrowingBook$State")]
def xWd (K : xK) (S : xSt) (U : State) (H : Heap) : Prop := va_P K.1 vwCl (xws K S) H ∧ va_K K.1 vwCl (xtys K) U ∧ va_D (fun _ => True) (xws K S)
def xA (K : xK) : Nat → Prop := fun q => ∃ t o, (t, o) ∈ xvl K ∧ q = xad K t o
def xLO (i : Nat) : Int32 := if i = 0 then 4 else if i = 1 then 0 else 4
def xHI (i : Nat) : Int32 := if i = 0 then 9 else if i = 1 then 2 else 32
def xFI0 (i : Nat) : Int32 := if i = 0 then 6 else if i = 1 then 1 else 8
def xStt (K : xK) (A : Nat → Prop) (U : State) (H : Heap) : Prop :=
  va_Z "GrowingBook" "LOWEST" "[I" (xrs K 0) A U H ∧ va_T .int (xsa K 0) 3 (fun i => .int (xLO i)) A U H ∧
  va_Z "GrowingBook" "HIGHEST" "[I" (xrs K 1) A U H ∧ va_T .int (xsa K 1) 3 (fun i => .int (xHI i)) A U H ∧
  va_Z "GrowingBook" "FIRST" "[I" (xrs K 2) A U H ∧ va_T .int (xsa K 2) 3 (fun i => .int (xFI0 i)) A U H ∧ va_T .int (xsa K 3) (xsa K 4) (fun i => .int (xxs K i)) A U H
def xTB : List Cond := lw_tbl.filter goodWord
theorem xtb {w : Cond} (i : Nat) (h : lw_tbl[i]? = some w) (g : goodWord w = true) : w ∈ xTB := List.mem_filter.mpr ⟨List.mem_of_getElem? h, g⟩
/-- the words of nest mates: not among those that a contract may carry -/
def xnest : Cond → Bool
  | .fieldLinkNest _ _ _ _ _ _ => true
  | .methodLinkNest _ _ _ _ => true
  | _ => false
def xNL : List Cond := lw_tbl.filter xnest
theorem xnl {w : Cond} (i : Nat) (h : lw_tbl[i]? = some w) (g : xnest w = true) : w ∈ xNL := List.mem_filter.mpr ⟨List.mem_of_getElem? h, g⟩
def xNw (U : State) : Prop := ∀ w ∈ xNL, va_Nw w U
theorem xNw_warm {s U : State} (hW : s.WarmedH U.vm) (h : xNw s) : xNw U := by
  intro w hw
  have h1 := h w hw
  have h2 := (List.mem_filter.mp hw).2
  cases w with
  | fieldLinkNest => exact va_Nw.warmF hW h1
  | methodLinkNest => exact va_Nw.warmM hW h1
  | _ => cases h2
theorem xNw_same {u U : State} (hvm : u.vm = U.vm) (h : xNw u) : xNw U := by
  intro w hw
  have h1 := h w hw
  have h2 := (List.mem_filter.mp hw).2
  cases w with
  | fieldLinkNest => exact va_Nw.same rfl hvm h1
  | methodLinkNest => exact va_Nw.same rfl hvm h1
  | _ => cases h2
theorem xNw_use {U : State} {w : Cond} (h : xNw U) (hw : w ∈ xNL) (A : Array Value) : w.before A U = true := by
  have h1 := h w hw
  have h2 := (List.mem_filter.mp hw).2
  cases w with
  | fieldLinkNest => exact va_Nw.use rfl h1
  | methodLinkNest => exact va_Nw.use rfl h1
  | _ => cases h2
/-- which cells belong to which -/
def xVC (vl : List (Nat × Nat)) : Prop := (∀ o, (0, o) ∈ vl → (10, o) ∈ vl) ∧ (∀ o, (0, o) ∈ vl → (11, o) ∈ vl) ∧ (∀ o, (0, o) ∈ vl → (12, o) ∈ vl) ∧ (∀ o, (0, o) ∈ vl → (13, o) ∈ vl) ∧ (∀ o, (1, o) ∈ vl → (14, o) ∈ vl) ∧ (∀ o, (2, o) ∈ vl → (15, o) ∈ vl) ∧ (∀ o, (2, o) ∈ vl → (16, o) ∈ vl) ∧ (∀ o, (2, o) ∈ vl → (17, o) ∈ vl) ∧ (∀ o, (2, o) ∈ vl → (18, o) ∈ vl) ∧ (∀ o, (3, o) ∈ vl → (19, o) ∈ vl) ∧ (∀ o, (3, o) ∈ vl → (20, o) ∈ vl) ∧ (∀ o, (3, o) ∈ vl → (21, o) ∈ vl) ∧ (∀ o, (4, o) ∈ vl → (22, o) ∈ vl) ∧ (∀ o, (4, o) ∈ vl → (23, o) ∈ vl) ∧ (∀ o, (4, o) ∈ vl → (24, o) ∈ vl) ∧ (∀ o, (5, o) ∈ vl → (0, o) ∈ vl) ∧ (∀ o, (5, o) ∈ vl → (25, o) ∈ vl) ∧ (∀ o, (5, o) ∈ vl → (26, o) ∈ vl) ∧ (∀ o, (5, o) ∈ vl → (27, o) ∈ vl) ∧ (∀ o, (5, o) ∈ vl → (28, o) ∈ vl) ∧ (∀ o, (5, o) ∈ vl → (29, o) ∈ vl) ∧ ((6, 0) ∈ vl → (4, 0) ∈ vl) ∧ ((6, 0) ∈ vl → (1, 0) ∈ vl) ∧ ((6, 0) ∈ vl → (30, 0) ∈ vl) ∧ ((6, 0) ∈ vl → (31, 0) ∈ vl) ∧ ((6, 0) ∈ vl → (2, 0) ∈ vl) ∧ ((6, 0) ∈ vl → (5, 0) ∈ vl) ∧ ((6, 0) ∈ vl → (3, 0) ∈ vl) ∧ ((6, 0) ∈ vl → (32, 0) ∈ vl) ∧ ((6, 0) ∈ vl → (5, 1) ∈ vl) ∧ ((6, 0) ∈ vl → (3, 1) ∈ vl) ∧ ((6, 0) ∈ vl → (32, 1) ∈ vl) ∧ (∀ i, i < 6 → (14, 0) ∈ vl → (4, 1 + i) ∈ vl) ∧ (∀ i, i < 2 → (30, 0) ∈ vl → (4, 7 + i) ∈ vl)
theorem xvc_0_0 {vl : List (Nat × Nat)} (h : xVC vl) {o : Nat} (hv : (0, o) ∈ vl) : (10, o) ∈ vl := h.1 o hv
theorem xvc_0_1 {vl : List (Nat × Nat)} (h : xVC vl) {o : Nat} (hv : (0, o) ∈ vl) : (11, o) ∈ vl := h.2.1 o hv
theorem xvc_0_2 {vl : List (Nat × Nat)} (h : xVC vl) {o : Nat} (hv : (0, o) ∈ vl) : (12, o) ∈ vl := h.2.2.1 o hv
theorem xvc_0_3 {vl : List (Nat × Nat)} (h : xVC vl) {o : Nat} (hv : (0, o) ∈ vl) : (13, o) ∈ vl := h.2.2.2.1 o hv
theorem xvc_1_0 {vl : List (Nat × Nat)} (h : xVC vl) {o : Nat} (hv : (1, o) ∈ vl) : (14, o) ∈ vl := h.2.2.2.2.1 o hv
theorem xvc_2_0 {vl : List (Nat × Nat)} (h : xVC vl) {o : Nat} (hv : (2, o) ∈ vl) : (15, o) ∈ vl := h.2.2.2.2.2.1 o hv
theorem xvc_2_1 {vl : List (Nat × Nat)} (h : xVC vl) {o : Nat} (hv : (2, o) ∈ vl) : (16, o) ∈ vl := h.2.2.2.2.2.2.1 o hv
theorem xvc_2_2 {vl : List (Nat × Nat)} (h : xVC vl) {o : Nat} (hv : (2, o) ∈ vl) : (17, o) ∈ vl := h.2.2.2.2.2.2.2.1 o hv
theorem xvc_2_3 {vl : List (Nat × Nat)} (h : xVC vl) {o : Nat} (hv : (2, o) ∈ vl) : (18, o) ∈ vl := h.2.2.2.2.2.2.2.2.1 o hv
theorem xvc_3_0 {vl : List (Nat × Nat)} (h : xVC vl) {o : Nat} (hv : (3, o) ∈ vl) : (19, o) ∈ vl := h.2.2.2.2.2.2.2.2.2.1 o hv
theorem xvc_3_6 {vl : List (Nat × Nat)} (h : xVC vl) {o : Nat} (hv : (3, o) ∈ vl) : (20, o) ∈ vl := h.2.2.2.2.2.2.2.2.2.2.1 o hv
theorem xvc_3_7 {vl : List (Nat × Nat)} (h : xVC vl) {o : Nat} (hv : (3, o) ∈ vl) : (21, o) ∈ vl := h.2.2.2.2.2.2.2.2.2.2.2.1 o hv
theorem xvc_4_0 {vl : List (Nat × Nat)} (h : xVC vl) {o : Nat} (hv : (4, o) ∈ vl) : (22, o) ∈ vl := h.2.2.2.2.2.2.2.2.2.2.2.2.1 o hv
theorem xvc_4_1 {vl : List (Nat × Nat)} (h : xVC vl) {o : Nat} (hv : (4, o) ∈ vl) : (23, o) ∈ vl := h.2.2.2.2.2.2.2.2.2.2.2.2.2.1 o hv
theorem xvc_4_2 {vl : List (Nat × Nat)} (h : xVC vl) {o : Nat} (hv : (4, o) ∈ vl) : (24, o) ∈ vl := h.2.2.2.2.2.2.2.2.2.2.2.2.2.2.1 o hv
theorem xvc_5_0 {vl : List (Nat × Nat)} (h : xVC vl) {o : Nat} (hv : (5, o) ∈ vl) : (0, o) ∈ vl := h.2.2.2.2.2.2.2.2.2.2.2.2.2.2.2.1 o hv
theorem xvc_5_1 {vl : List (Nat × Nat)} (h : xVC vl) {o : Nat} (hv : (5, o) ∈ vl) : (25, o) ∈ vl := h.2.2.2.2.2.2.2.2.2.2.2.2.2.2.2.2.1 o hv
theorem xvc_5_2 {vl : List (Nat × Nat)} (h : xVC vl) {o : Nat} (hv : (5, o) ∈ vl) : (26, o) ∈ vl := h.2.2.2.2.2.2.2.2.2.2.2.2.2.2.2.2.2.1 o hv
theorem xvc_5_3 {vl : List (Nat × Nat)} (h : xVC vl) {o : Nat} (hv : (5, o) ∈ vl) : (27, o) ∈ vl := h.2.2.2.2.2.2.2.2.2.2.2.2.2.2.2.2.2.2.1 o hv
theorem xvc_5_4 {vl : List (Nat × Nat)} (h : xVC vl) {o : Nat} (hv : (5, o) ∈ vl) : (28, o) ∈ vl := h.2.2.2.2.2.2.2.2.2.2.2.2.2.2.2.2.2.2.2.1 o hv
theorem xvc_5_5 {vl : List (Nat × Nat)} (h : xVC vl) {o : Nat} (hv : (5, o) ∈ vl) : (29, o) ∈ vl := h.2.2.2.2.2.2.2.2.2.2.2.2.2.2.2.2.2.2.2.2.1 o hv
theorem xvc_6_0 {vl : List (Nat × Nat)} (h : xVC vl) (hv : (6, 0) ∈ vl) : (4, 0) ∈ vl := h.2.2.2.2.2.2.2.2.2.2.2.2.2.2.2.2.2.2.2.2.2.1 hv
theorem xvc_6_1 {vl : List (Nat × Nat)} (h : xVC vl) (hv : (6, 0) ∈ vl) : (1, 0) ∈ vl := h.2.2.2.2.2.2.2.2.2.2.2.2.2.2.2.2.2.2.2.2.2.2.1 hv
theorem xvc_6_2 {vl : List (Nat × Nat)} (h : xVC vl) (hv : (6, 0) ∈ vl) : (30, 0) ∈ vl := h.2.2.2.2.2.2.2.2.2.2.2.2.2.2.2.2.2.2.2.2.2.2.2.1 hv
theorem xvc_6_3 {vl : List (Nat × Nat)} (h : xVC vl) (hv : (6, 0) ∈ vl) : (31, 0) ∈ vl := h.2.2.2.2.2.2.2.2.2.2.2.2.2.2.2.2.2.2.2.2.2.2.2.2.1 hv
theorem xvc_6_4 {vl : List (Nat × Nat)} (h : xVC vl) (hv : (6, 0) ∈ vl) : (2, 0) ∈ vl := h.2.2.2.2.2.2.2.2.2.2.2.2.2.2.2.2.2.2.2.2.2.2.2.2.2.1 hv
theorem xvc_6_5 {vl : List (Nat × Nat)} (h : xVC vl) (hv : (6, 0) ∈ vl) : (5, 0) ∈ vl := h.2.2.2.2.2.2.2.2.2.2.2.2.2.2.2.2.2.2.2.2.2.2.2.2.2.2.1 hv
theorem xvc_6_6 {vl : List (Nat × Nat)} (h : xVC vl) (hv : (6, 0) ∈ vl) : (3, 0) ∈ vl := h.2.2.2.2.2.2.2.2.2.2.2.2.2.2.2.2.2.2.2.2.2.2.2.2.2.2.2.1 hv
theorem xvc_6_7 {vl : List (Nat × Nat)} (h : xVC vl) (hv : (6, 0) ∈ vl) : (32, 0) ∈ vl := h.2.2.2.2.2.2.2.2.2.2.2.2.2.2.2.2.2.2.2.2.2.2.2.2.2.2.2.2.1 hv
theorem xvc_6_8 {vl : List (Nat × Nat)} (h : xVC vl) (hv : (6, 0) ∈ vl) : (5, 1) ∈ vl := h.2.2.2.2.2.2.2.2.2.2.2.2.2.2.2.2.2.2.2.2.2.2.2.2.2.2.2.2.2.1 hv
theorem xvc_6_9 {vl : List (Nat × Nat)} (h : xVC vl) (hv : (6, 0) ∈ vl) : (3, 1) ∈ vl := h.2.2.2.2.2.2.2.2.2.2.2.2.2.2.2.2.2.2.2.2.2.2.2.2.2.2.2.2.2.2.1 hv
theorem xvc_6_10 {vl : List (Nat × Nat)} (h : xVC vl) (hv : (6, 0) ∈ vl) : (32, 1) ∈ vl := h.2.2.2.2.2.2.2.2.2.2.2.2.2.2.2.2.2.2.2.2.2.2.2.2.2.2.2.2.2.2.2.1 hv
theorem xvc_s14 {vl : List (Nat × Nat)} (h : xVC vl) (hv : (14, 0) ∈ vl) {i : Nat} (hi : i < 6) : (4, 1 + i) ∈ vl := h.2.2.2.2.2.2.2.2.2.2.2.2.2.2.2.2.2.2.2.2.2.2.2.2.2.2.2.2.2.2.2.2.1 i hi hv
theorem xvc_s30 {vl : List (Nat × Nat)} (h : xVC vl) (hv : (30, 0) ∈ vl) {i : Nat} (hi : i < 2) : (4, 7 + i) ∈ vl := h.2.2.2.2.2.2.2.2.2.2.2.2.2.2.2.2.2.2.2.2.2.2.2.2.2.2.2.2.2.2.2.2.2 i hi hv
/-! the goal -/
abbrev xX : Type := Program × Launch × Env × Room × State × MethodId × Array Value × List Frame × Method × Code × Nat × Nat × (State → Prop) × (Nat → Prop)
def xG (K : xK) (X : xX) (S : xSt) (pc : Nat) (lv : List (Nat × Value)) (st : List Value) : Prop := match X with
  | (p, l, e, R, s, m, args, below, meth, c, ce, sl, Q, A) => ∀ (H : Heap) (locs : List Loc) (ls : Array Slot), xWd K S s H → va_S A s.heap H locs → lv_has ls c.maxLocals lv → W p l e R s m args below meth c H locs ce sl Q (F0 m pc ls st)
def xOK (K : xK) (X : xX) (own : String) (cc : ByteArray) (nL : Nat) : Prop := match X with
  | (p, l, e, R, s, m, args, below, meth, c, ce, sl, Q, A) => p.tables.exec = Jvm.exec ∧ c.code = cc ∧ c.maxLocals = nL ∧ s.vm.findClass own = some m.cls ∧ (∀ w ∈ xTB, w.before args s = true) ∧ (∀ t o, (t, o) ∈ xvl K → A (xad K t o)) ∧ xStt K A s s.heap ∧ xVC (xvl K) ∧ xNw s
theorem xOK.vc {K : xK} {X : xX} {own : String} {cc : ByteArray} {nL : Nat} (h : xOK K X own cc nL) : xVC (xvl K) := by
  obtain ⟨p, l, e, R, s, m, args, below, meth, c, ce, sl, Q, A⟩ := X
  exact h.2.2.2.2.2.2.2.1

section XG
variable {K : xK} {X : xX} {own : String} {cc : ByteArray} {nL : Nat} {S : xSt} {pc : Nat} {lv : List (Nat × Value)} {st : List Value}
theorem g_iconst {n : Int} {v : Int32} (hX : xOK K X own cc nL) (d : decode cc pc = .ok (.iconst n, 1)) (hv9 : Int32.ofInt n = v) (kk : xG K X S (pc + 1) lv (.int v :: st)) : xG K X S pc lv st := by
  obtain ⟨p, l, e, R, s, m, args, below, meth, c, ce, sl, Q, A⟩ := X
  obtain ⟨hx, hb, hml, hown, hts, hA, hst, hvc⟩ := hX
  intro H locs ls wd hS hv
  exact lv_iconst hx hb d hv9 (kk H locs ls wd hS hv)
theorem g_bipush {n : Int} {v : Int32} (hX : xOK K X own cc nL) (d : decode cc pc = .ok (.bipush n, 2)) (hv9 : (Int8.ofInt n).toInt32 = v) (kk : xG K X S (pc + 2) lv (.int v :: st)) : xG K X S pc lv st := by
  obtain ⟨p, l, e, R, s, m, args, below, meth, c, ce, sl, Q, A⟩ := X
  obtain ⟨hx, hb, hml, hown, hts, hA, hst, hvc⟩ := hX
  intro H locs ls wd hS hv
  exact lv_bipush hx hb d hv9 (kk H locs ls wd hS hv)
theorem g_sipush {n : Int} {v : Int32} (hX : xOK K X own cc nL) (d : decode cc pc = .ok (.sipush n, 3)) (hv9 : (Int16.ofInt n).toInt32 = v) (kk : xG K X S (pc + 3) lv (.int v :: st)) : xG K X S pc lv st := by
  obtain ⟨p, l, e, R, s, m, args, below, meth, c, ce, sl, Q, A⟩ := X
  obtain ⟨hx, hb, hml, hown, hts, hA, hst, hvc⟩ := hX
  intro H locs ls wd hS hv
  exact lv_sipush hx hb d hv9 (kk H locs ls wd hS hv)
theorem g_lconst {n : Fin 2} {v : Int64} (hX : xOK K X own cc nL) (d : decode cc pc = .ok (.lconst n, 1)) (hv9 : Int64.ofNat (n : Nat) = v) (kk : xG K X S (pc + 1) lv (.long v :: st)) : xG K X S pc lv st := by
  obtain ⟨p, l, e, R, s, m, args, below, meth, c, ce, sl, Q, A⟩ := X
  obtain ⟨hx, hb, hml, hown, hts, hA, hst, hvc⟩ := hX
  intro H locs ls wd hS hv
  exact lv_lconst hx hb d hv9 (kk H locs ls wd hS hv)
theorem g_iload_n {k : Fin 4} {i : Nat} {x : Int32} (hX : xOK K X own cc nL) (d : decode cc pc = .ok (.iload_n k, 1)) (hi : (k : Nat) = i) (q : Nat) (hl : lv[q]? = some (i, .int x)) (kk : xG K X S (pc + 1) lv (.int x :: st)) : xG K X S pc lv st := by
  obtain ⟨p, l, e, R, s, m, args, below, meth, c, ce, sl, Q, A⟩ := X
  obtain ⟨hx, hb, hml, hown, hts, hA, hst, hvc⟩ := hX
  intro H locs ls wd hS hv
  exact lv_iload_n hx hb d hi (lv_at hv q hl) (kk H locs ls wd hS hv)
theorem g_iload {i : Nat} {x : Int32} (hX : xOK K X own cc nL) (d : decode cc pc = .ok (.iload i, 2)) (q : Nat) (hl : lv[q]? = some (i, .int x)) (kk : xG K X S (pc + 2) lv (.int x :: st)) : xG K X S pc lv st := by
  obtain ⟨p, l, e, R, s, m, args, below, meth, c, ce, sl, Q, A⟩ := X
  obtain ⟨hx, hb, hml, hown, hts, hA, hst, hvc⟩ := hX
  intro H locs ls wd hS hv
  exact lv_iload hx hb d (lv_at hv q hl) (kk H locs ls wd hS hv)
theorem g_lload_n {k : Fin 4} {i : Nat} {x : Int64} (hX : xOK K X own cc nL) (d : decode cc pc = .ok (.lload_n k, 1)) (hi : (k : Nat) = i) (q : Nat) (hl : lv[q]? = some (i, .long x)) (kk : xG K X S (pc + 1) lv (.long x :: st)) : xG K X S pc lv st := by
  obtain ⟨p, l, e, R, s, m, args, below, meth, c, ce, sl, Q, A⟩ := X
  obtain ⟨hx, hb, hml, hown, hts, hA, hst, hvc⟩ := hX
  intro H locs ls wd hS hv
  exact lv_lload_n hx hb d hi (lv_at hv q hl) (kk H locs ls wd hS hv)
theorem g_lload {i : Nat} {x : Int64} (hX : xOK K X own cc nL) (d : decode cc pc = .ok (.lload i, 2)) (q : Nat) (hl : lv[q]? = some (i, .long x)) (kk : xG K X S (pc + 2) lv (.long x :: st)) : xG K X S pc lv st := by
  obtain ⟨p, l, e, R, s, m, args, below, meth, c, ce, sl, Q, A⟩ := X
  obtain ⟨hx, hb, hml, hown, hts, hA, hst, hvc⟩ := hX
  intro H locs ls wd hS hv
  exact lv_lload hx hb d (lv_at hv q hl) (kk H locs ls wd hS hv)
theorem g_aload_n {k : Fin 4} {i t o : Nat} (hX : xOK K X own cc nL) (d : decode cc pc = .ok (.aload_n k, 1)) (hi : (k : Nat) = i) (q : Nat) (hl : lv[q]? = some (i, xr K t o)) (kk : xG K X S (pc + 1) lv (xr K t o :: st)) : xG K X S pc lv st := by
  obtain ⟨p, l, e, R, s, m, args, below, meth, c, ce, sl, Q, A⟩ := X
  obtain ⟨hx, hb, hml, hown, hts, hA, hst, hvc⟩ := hX
  intro H locs ls wd hS hv
  exact lv_aload_n hx hb d hi (lv_at hv q hl) (kk H locs ls wd hS hv)
theorem g_aload {i t o : Nat} (hX : xOK K X own cc nL) (d : decode cc pc = .ok (.aload i, 2)) (q : Nat) (hl : lv[q]? = some (i, xr K t o)) (kk : xG K X S (pc + 2) lv (xr K t o :: st)) : xG K X S pc lv st := by
  obtain ⟨p, l, e, R, s, m, args, below, meth, c, ce, sl, Q, A⟩ := X
  obtain ⟨hx, hb, hml, hown, hts, hA, hst, hvc⟩ := hX
  intro H locs ls wd hS hv
  exact lv_aload hx hb d (lv_at hv q hl) (kk H locs ls wd hS hv)
theorem g_istore_n {k : Fin 4} {i : Nat} {x : Int32} {lv2 : List (Nat × Value)} (hX : xOK K X own cc nL) (d : decode cc pc = .ok (.istore_n k, 1)) (hi : (k : Nat) = i) (hn : i < nL) (hl : (i, Value.int x) :: lv.filter (fun q => !(q.1 == i) && !(q.1 + 1 == i && q.2.category == 2)) = lv2) (kk : xG K X S (pc + 1) lv2 st) : xG K X S pc lv (.int x :: st) := by
  obtain ⟨p, l, e, R, s, m, args, below, meth, c, ce, sl, Q, A⟩ := X
  obtain ⟨hx, hb, hml, hown, hts, hA, hst, hvc⟩ := hX
  intro H locs ls wd hS hv
  exact lv_istore_n hx hb d hi hv (by rw [hml]; exact hn) hl (fun ls2 hv2 => kk H locs ls2 wd hS hv2)
theorem g_istore {i : Nat} {x : Int32} {lv2 : List (Nat × Value)} (hX : xOK K X own cc nL) (d : decode cc pc = .ok (.istore i, 2)) (hn : i < nL) (hl : (i, Value.int x) :: lv.filter (fun q => !(q.1 == i) && !(q.1 + 1 == i && q.2.category == 2)) = lv2) (kk : xG K X S (pc + 2) lv2 st) : xG K X S pc lv (.int x :: st) := by
  obtain ⟨p, l, e, R, s, m, args, below, meth, c, ce, sl, Q, A⟩ := X
  obtain ⟨hx, hb, hml, hown, hts, hA, hst, hvc⟩ := hX
  intro H locs ls wd hS hv
  exact lv_istore hx hb d hv (by rw [hml]; exact hn) hl (fun ls2 hv2 => kk H locs ls2 wd hS hv2)
theorem g_lstore_n {k : Fin 4} {i : Nat} {x : Int64} {lv2 : List (Nat × Value)} (hX : xOK K X own cc nL) (d : decode cc pc = .ok (.lstore_n k, 1)) (hi : (k : Nat) = i) (hn : i + 1 < nL) (hl : (i, Value.long x) :: lv.filter (fun q => !(q.1 == i) && (!(q.1 == i + 1) && !(q.1 + 1 == i && q.2.category == 2))) = lv2) (kk : xG K X S (pc + 1) lv2 st) : xG K X S pc lv (.long x :: st) := by
  obtain ⟨p, l, e, R, s, m, args, below, meth, c, ce, sl, Q, A⟩ := X
  obtain ⟨hx, hb, hml, hown, hts, hA, hst, hvc⟩ := hX
  intro H locs ls wd hS hv
  exact lv_lstore_n hx hb d hi hv (by rw [hml]; exact hn) hl (fun ls2 hv2 => kk H locs ls2 wd hS hv2)
theorem g_lstore {i : Nat} {x : Int64} {lv2 : List (Nat × Value)} (hX : xOK K X own cc nL) (d : decode cc pc = .ok (.lstore i, 2)) (hn : i + 1 < nL) (hl : (i, Value.long x) :: lv.filter (fun q => !(q.1 == i) && (!(q.1 == i + 1) && !(q.1 + 1 == i && q.2.category == 2))) = lv2) (kk : xG K X S (pc + 2) lv2 st) : xG K X S pc lv (.long x :: st) := by
  obtain ⟨p, l, e, R, s, m, args, below, meth, c, ce, sl, Q, A⟩ := X
  obtain ⟨hx, hb, hml, hown, hts, hA, hst, hvc⟩ := hX
  intro H locs ls wd hS hv
  exact lv_lstore hx hb d hv (by rw [hml]; exact hn) hl (fun ls2 hv2 => kk H locs ls2 wd hS hv2)
theorem g_astore {i t o : Nat} {lv2 : List (Nat × Value)} (hX : xOK K X own cc nL) (d : decode cc pc = .ok (.astore i, 2)) (hn : i < nL) (hl : (i, xr K t o) :: lv.filter (fun q => !(q.1 == i) && !(q.1 + 1 == i && q.2.category == 2)) = lv2) (kk : xG K X S (pc + 2) lv2 st) : xG K X S pc lv (xr K t o :: st) := by
  obtain ⟨p, l, e, R, s, m, args, below, meth, c, ce, sl, Q, A⟩ := X
  obtain ⟨hx, hb, hml, hown, hts, hA, hst, hvc⟩ := hX
  intro H locs ls wd hS hv
  exact lv_astore hx hb d hv (by rw [hml]; exact hn) hl (fun ls2 hv2 => kk H locs ls2 wd hS hv2)
theorem g_astore_n {k : Fin 4} {i t o : Nat} {lv2 : List (Nat × Value)} (hX : xOK K X own cc nL) (d : decode cc pc = .ok (.astore_n k, 1)) (hi : (k : Nat) = i) (hn : i < nL) (hl : (i, xr K t o) :: lv.filter (fun q => !(q.1 == i) && !(q.1 + 1 == i && q.2.category == 2)) = lv2) (kk : xG K X S (pc + 1) lv2 st) : xG K X S pc lv (xr K t o :: st) := by
  obtain ⟨p, l, e, R, s, m, args, below, meth, c, ce, sl, Q, A⟩ := X
  obtain ⟨hx, hb, hml, hown, hts, hA, hst, hvc⟩ := hX
  intro H locs ls wd hS hv
  exact lv_astore_n hx hb d hi hv (by rw [hml]; exact hn) hl (fun ls2 hv2 => kk H locs ls2 wd hS hv2)
theorem g_iinc {i : Nat} {n : Int} {x v : Int32} {lv2 : List (Nat × Value)} (hX : xOK K X own cc nL) (d : decode cc pc = .ok (.iinc i n, 3)) (q : Nat) (hq : lv[q]? = some (i, .int x)) (hv9 : x + Int32.ofInt n = v) (hn : i < nL) (hl : (i, Value.int v) :: lv.filter (fun q => !(q.1 == i) && !(q.1 + 1 == i && q.2.category == 2)) = lv2) (kk : xG K X S (pc + 3) lv2 st) : xG K X S pc lv st := by
  obtain ⟨p, l, e, R, s, m, args, below, meth, c, ce, sl, Q, A⟩ := X
  obtain ⟨hx, hb, hml, hown, hts, hA, hst, hvc⟩ := hX
  intro H locs ls wd hS hv
  exact lv_iinc hx hb d hv hq hv9 (by rw [hml]; exact hn) hl (fun ls2 hv2 => kk H locs ls2 wd hS hv2)
theorem g_iadd {x y : Int32} (hX : xOK K X own cc nL) (d : decode cc pc = .ok (.iadd, 1))  (kk : xG K X S (pc + 1) lv (.int (x + y) :: st)) : xG K X S pc lv (.int y :: .int x :: st) := by
  obtain ⟨p, l, e, R, s, m, args, below, meth, c, ce, sl, Q, A⟩ := X
  obtain ⟨hx, hb, hml, hown, hts, hA, hst, hvc⟩ := hX
  intro H locs ls wd hS hv
  exact lv_iadd hx hb d  (kk H locs ls wd hS hv)
theorem g_isub {x y : Int32} (hX : xOK K X own cc nL) (d : decode cc pc = .ok (.isub, 1))  (kk : xG K X S (pc + 1) lv (.int (x - y) :: st)) : xG K X S pc lv (.int y :: .int x :: st) := by
  obtain ⟨p, l, e, R, s, m, args, below, meth, c, ce, sl, Q, A⟩ := X
  obtain ⟨hx, hb, hml, hown, hts, hA, hst, hvc⟩ := hX
  intro H locs ls wd hS hv
  exact lv_isub hx hb d  (kk H locs ls wd hS hv)
theorem g_imul {x y : Int32} (hX : xOK K X own cc nL) (d : decode cc pc = .ok (.imul, 1))  (kk : xG K X S (pc + 1) lv (.int (x * y) :: st)) : xG K X S pc lv (.int y :: .int x :: st) := by
  obtain ⟨p, l, e, R, s, m, args, below, meth, c, ce, sl, Q, A⟩ := X
  obtain ⟨hx, hb, hml, hown, hts, hA, hst, hvc⟩ := hX
  intro H locs ls wd hS hv
  exact lv_imul hx hb d  (kk H locs ls wd hS hv)
theorem g_iand {x y : Int32} (hX : xOK K X own cc nL) (d : decode cc pc = .ok (.iand, 1))  (kk : xG K X S (pc + 1) lv (.int (x &&& y) :: st)) : xG K X S pc lv (.int y :: .int x :: st) := by
  obtain ⟨p, l, e, R, s, m, args, below, meth, c, ce, sl, Q, A⟩ := X
  obtain ⟨hx, hb, hml, hown, hts, hA, hst, hvc⟩ := hX
  intro H locs ls wd hS hv
  exact lv_iand hx hb d  (kk H locs ls wd hS hv)
theorem g_ixor {x y : Int32} (hX : xOK K X own cc nL) (d : decode cc pc = .ok (.ixor, 1))  (kk : xG K X S (pc + 1) lv (.int (x ^^^ y) :: st)) : xG K X S pc lv (.int y :: .int x :: st) := by
  obtain ⟨p, l, e, R, s, m, args, below, meth, c, ce, sl, Q, A⟩ := X
  obtain ⟨hx, hb, hml, hown, hts, hA, hst, hvc⟩ := hX
  intro H locs ls wd hS hv
  exact lv_ixor hx hb d  (kk H locs ls wd hS hv)
theorem g_ishl {x y : Int32} (hX : xOK K X own cc nL) (d : decode cc pc = .ok (.ishl, 1))  (kk : xG K X S (pc + 1) lv (.int (x <<< (y &&& 31)) :: st)) : xG K X S pc lv (.int y :: .int x :: st) := by
  obtain ⟨p, l, e, R, s, m, args, below, meth, c, ce, sl, Q, A⟩ := X
  obtain ⟨hx, hb, hml, hown, hts, hA, hst, hvc⟩ := hX
  intro H locs ls wd hS hv
  exact lv_ishl hx hb d  (kk H locs ls wd hS hv)
theorem g_ishr {x y : Int32} (hX : xOK K X own cc nL) (d : decode cc pc = .ok (.ishr, 1))  (kk : xG K X S (pc + 1) lv (.int (x >>> (y &&& 31)) :: st)) : xG K X S pc lv (.int y :: .int x :: st) := by
  obtain ⟨p, l, e, R, s, m, args, below, meth, c, ce, sl, Q, A⟩ := X
  obtain ⟨hx, hb, hml, hown, hts, hA, hst, hvc⟩ := hX
  intro H locs ls wd hS hv
  exact lv_ishr hx hb d  (kk H locs ls wd hS hv)
theorem g_land {x y : Int64} (hX : xOK K X own cc nL) (d : decode cc pc = .ok (.land, 1))  (kk : xG K X S (pc + 1) lv (.long (x &&& y) :: st)) : xG K X S pc lv (.long y :: .long x :: st) := by
  obtain ⟨p, l, e, R, s, m, args, below, meth, c, ce, sl, Q, A⟩ := X
  obtain ⟨hx, hb, hml, hown, hts, hA, hst, hvc⟩ := hX
  intro H locs ls wd hS hv
  exact lv_land hx hb d  (kk H locs ls wd hS hv)
theorem g_lor {x y : Int64} (hX : xOK K X own cc nL) (d : decode cc pc = .ok (.lor, 1))  (kk : xG K X S (pc + 1) lv (.long (x ||| y) :: st)) : xG K X S pc lv (.long y :: .long x :: st) := by
  obtain ⟨p, l, e, R, s, m, args, below, meth, c, ce, sl, Q, A⟩ := X
  obtain ⟨hx, hb, hml, hown, hts, hA, hst, hvc⟩ := hX
  intro H locs ls wd hS hv
  exact lv_lor hx hb d  (kk H locs ls wd hS hv)
theorem g_idiv {x y : Int32} (hX : xOK K X own cc nL) (d : decode cc pc = .ok (.idiv, 1)) (hne : ¬ y = 0) (kk : xG K X S (pc + 1) lv (.int (x / y) :: st)) : xG K X S pc lv (.int y :: .int x :: st) := by
  obtain ⟨p, l, e, R, s, m, args, below, meth, c, ce, sl, Q, A⟩ := X
  obtain ⟨hx, hb, hml, hown, hts, hA, hst, hvc⟩ := hX
  intro H locs ls wd hS hv
  exact lv_idiv hx hb d hne (kk H locs ls wd hS hv)
theorem g_irem {x y : Int32} (hX : xOK K X own cc nL) (d : decode cc pc = .ok (.irem, 1)) (hne : ¬ y = 0) (kk : xG K X S (pc + 1) lv (.int (x - x / y * y) :: st)) : xG K X S pc lv (.int y :: .int x :: st) := by
  obtain ⟨p, l, e, R, s, m, args, below, meth, c, ce, sl, Q, A⟩ := X
  obtain ⟨hx, hb, hml, hown, hts, hA, hst, hvc⟩ := hX
  intro H locs ls wd hS hv
  exact lv_irem hx hb d hne (kk H locs ls wd hS hv)
theorem g_lshl {x : Int64} {y : Int32} (hX : xOK K X own cc nL) (d : decode cc pc = .ok (.lshl, 1))  (kk : xG K X S (pc + 1) lv (.long (x <<< (y.toInt64 &&& 63)) :: st)) : xG K X S pc lv (.int y :: .long x :: st) := by
  obtain ⟨p, l, e, R, s, m, args, below, meth, c, ce, sl, Q, A⟩ := X
  obtain ⟨hx, hb, hml, hown, hts, hA, hst, hvc⟩ := hX
  intro H locs ls wd hS hv
  exact lv_lshl hx hb d rfl (kk H locs ls wd hS hv)
theorem g_lushr {x : Int64} {y : Int32} (hX : xOK K X own cc nL) (d : decode cc pc = .ok (.lushr, 1))  (kk : xG K X S (pc + 1) lv (.long (x.toUInt64 >>> (y.toInt64.toUInt64 &&& Int64.toUInt64 63)).toInt64 :: st)) : xG K X S pc lv (.int y :: .long x :: st) := by
  obtain ⟨p, l, e, R, s, m, args, below, meth, c, ce, sl, Q, A⟩ := X
  obtain ⟨hx, hb, hml, hown, hts, hA, hst, hvc⟩ := hX
  intro H locs ls wd hS hv
  exact lv_lushr hx hb d rfl (kk H locs ls wd hS hv)
theorem g_i2l {x : Int32} (hX : xOK K X own cc nL) (d : decode cc pc = .ok (.i2l, 1))  (kk : xG K X S (pc + 1) lv (.long x.toInt64 :: st)) : xG K X S pc lv (.int x :: st) := by
  obtain ⟨p, l, e, R, s, m, args, below, meth, c, ce, sl, Q, A⟩ := X
  obtain ⟨hx, hb, hml, hown, hts, hA, hst, hvc⟩ := hX
  intro H locs ls wd hS hv
  exact lv_i2l hx hb d rfl (kk H locs ls wd hS hv)
theorem g_l2i {x : Int64} (hX : xOK K X own cc nL) (d : decode cc pc = .ok (.l2i, 1))  (kk : xG K X S (pc + 1) lv (.int x.toInt32 :: st)) : xG K X S pc lv (.long x :: st) := by
  obtain ⟨p, l, e, R, s, m, args, below, meth, c, ce, sl, Q, A⟩ := X
  obtain ⟨hx, hb, hml, hown, hts, hA, hst, hvc⟩ := hX
  intro H locs ls wd hS hv
  exact lv_l2i hx hb d rfl (kk H locs ls wd hS hv)
theorem g_i2b {x : Int32} (hX : xOK K X own cc nL) (d : decode cc pc = .ok (.i2b, 1))  (kk : xG K X S (pc + 1) lv (.int x.toInt8.toInt32 :: st)) : xG K X S pc lv (.int x :: st) := by
  obtain ⟨p, l, e, R, s, m, args, below, meth, c, ce, sl, Q, A⟩ := X
  obtain ⟨hx, hb, hml, hown, hts, hA, hst, hvc⟩ := hX
  intro H locs ls wd hS hv
  exact lv_i2b hx hb d rfl (kk H locs ls wd hS hv)
theorem g_lcmp {x y : Int64} (hX : xOK K X own cc nL) (d : decode cc pc = .ok (.lcmp, 1))  (kk : xG K X S (pc + 1) lv (.int (lg_cmp x y) :: st)) : xG K X S pc lv (.long y :: .long x :: st) := by
  obtain ⟨p, l, e, R, s, m, args, below, meth, c, ce, sl, Q, A⟩ := X
  obtain ⟨hx, hb, hml, hown, hts, hA, hst, hvc⟩ := hX
  intro H locs ls wd hS hv
  exact W.lcmp hx hb d  (kk H locs ls wd hS hv)
theorem g_dup {va : Value} (hX : xOK K X own cc nL) (d : decode cc pc = .ok (.dup, 1)) (hva : va.category = 1) (kk : xG K X S (pc + 1) lv (va :: va :: st)) : xG K X S pc lv (va :: st) := by
  obtain ⟨p, l, e, R, s, m, args, below, meth, c, ce, sl, Q, A⟩ := X
  obtain ⟨hx, hb, hml, hown, hts, hA, hst, hvc⟩ := hX
  intro H locs ls wd hS hv
  exact lv_dup hx hb d hva (kk H locs ls wd hS hv)
theorem g_dup2 {va vb : Value} (hX : xOK K X own cc nL) (d : decode cc pc = .ok (.dup2, 1)) (hva : va.category = 1) (hvb : vb.category = 1) (kk : xG K X S (pc + 1) lv (va :: vb :: va :: vb :: st)) : xG K X S pc lv (va :: vb :: st) := by
  obtain ⟨p, l, e, R, s, m, args, below, meth, c, ce, sl, Q, A⟩ := X
  obtain ⟨hx, hb, hml, hown, hts, hA, hst, hvc⟩ := hX
  intro H locs ls wd hS hv
  exact lv_dup2_11 hx hb d hva hvb (kk H locs ls wd hS hv)
theorem g_pop {va : Value} (hX : xOK K X own cc nL) (d : decode cc pc = .ok (.pop, 1)) (hva : va.category = 1) (kk : xG K X S (pc + 1) lv st) : xG K X S pc lv (va :: st) := by
  obtain ⟨p, l, e, R, s, m, args, below, meth, c, ce, sl, Q, A⟩ := X
  obtain ⟨hx, hb, hml, hown, hts, hA, hst, hvc⟩ := hX
  intro H locs ls wd hS hv
  exact lv_pop hx hb d hva (kk H locs ls wd hS hv)
theorem g_aloads_n {k : Fin 4} {i n : Nat} (hX : xOK K X own cc nL) (d : decode cc pc = .ok (.aload_n k, 1)) (hi : (k : Nat) = i) (q : Nat) (hl : lv[q]? = some (i, xrs K n)) (kk : xG K X S (pc + 1) lv (xrs K n :: st)) : xG K X S pc lv st := by
  obtain ⟨p, l, e, R, s, m, args, below, meth, c, ce, sl, Q, A⟩ := X
  obtain ⟨hx, hb, hml, hown, hts, hA, hst, hvc⟩ := hX
  intro H locs ls wd hS hv
  exact lv_aload_n hx hb d hi (lv_at hv q hl) (kk H locs ls wd hS hv)
theorem g_ldc {index : Nat} {v : Int32} (hX : xOK K X own cc nL) (d : decode cc pc = .ok (.ldc index, 2)) (hc : Cond.constant own index v ∈ xTB) (kk : xG K X S (pc + 2) lv (.int v :: st)) : xG K X S pc lv st := by
  obtain ⟨p, l, e, R, s, m, args, below, meth, c, ce, sl, Q, A⟩ := X
  obtain ⟨hx, hb, hml, hown, hts, hA, hst, hvc⟩ := hX
  intro H locs ls wd hS hv
  exact lv_ldc hx hb hown (hts _ hc) d (kk H locs ls wd hS hv)
theorem g_ldc2 {index : Nat} {v : Int64} (hX : xOK K X own cc nL) (d : decode cc pc = .ok (.ldc2_w index, 3)) (hc : Cond.constantLong own index v ∈ xTB) (kk : xG K X S (pc + 3) lv (.long v :: st)) : xG K X S pc lv st := by
  obtain ⟨p, l, e, R, s, m, args, below, meth, c, ce, sl, Q, A⟩ := X
  obtain ⟨hx, hb, hml, hown, hts, hA, hst, hvc⟩ := hX
  intro H locs ls wd hS hv
  exact lv_ldc2 hx hb hown (hts _ hc) d (kk H locs ls wd hS hv)
theorem g_goto {off : Int} (hX : xOK K X own cc nL) (tgt : Nat) (d : decode cc pc = .ok (.goto off, 3)) (ht : (pc : Int) + off = (tgt : Int)) (kk : xG K X S tgt lv st) : xG K X S pc lv st := by
  obtain ⟨p, l, e, R, s, m, args, below, meth, c, ce, sl, Q, A⟩ := X
  obtain ⟨hx, hb, hml, hown, hts, hA, hst, hvc⟩ := hX
  intro H locs ls wd hS hv
  exact lv_goto hx hb d ht (kk H locs ls wd hS hv)
theorem g_icmp_eq {x y : Int32} {off : Int} (hX : xOK K X own cc nL) (tgt : Nat) (d : decode cc pc = .ok (.if_icmp .eq off, 3)) (ht : (pc : Int) + off = (tgt : Int)) (kt : x = y → xG K X S tgt lv st) (kf : ¬ x = y → xG K X S (pc + 3) lv st) : xG K X S pc lv (.int y :: .int x :: st) := by
  obtain ⟨p, l, e, R, s, m, args, below, meth, c, ce, sl, Q, A⟩ := X
  obtain ⟨hx, hb, hml, hown, hts, hA, hst, hvc⟩ := hX
  intro H locs ls wd hS hv
  exact lv_icmp_eq hx hb d ht (fun h => kt h H locs ls wd hS hv) (fun h => kf h H locs ls wd hS hv)
theorem g_icmp_ne {x y : Int32} {off : Int} (hX : xOK K X own cc nL) (tgt : Nat) (d : decode cc pc = .ok (.if_icmp .ne off, 3)) (ht : (pc : Int) + off = (tgt : Int)) (kt : ¬ x = y → xG K X S tgt lv st) (kf : x = y → xG K X S (pc + 3) lv st) : xG K X S pc lv (.int y :: .int x :: st) := by
  obtain ⟨p, l, e, R, s, m, args, below, meth, c, ce, sl, Q, A⟩ := X
  obtain ⟨hx, hb, hml, hown, hts, hA, hst, hvc⟩ := hX
  intro H locs ls wd hS hv
  exact lv_icmp_ne hx hb d ht (fun h => kt h H locs ls wd hS hv) (fun h => kf h H locs ls wd hS hv)
theorem g_icmp_lt {x y : Int32} {off : Int} (hX : xOK K X own cc nL) (tgt : Nat) (d : decode cc pc = .ok (.if_icmp .lt off, 3)) (ht : (pc : Int) + off = (tgt : Int)) (kt : x < y → xG K X S tgt lv st) (kf : ¬ x < y → xG K X S (pc + 3) lv st) : xG K X S pc lv (.int y :: .int x :: st) := by
  obtain ⟨p, l, e, R, s, m, args, below, meth, c, ce, sl, Q, A⟩ := X
  obtain ⟨hx, hb, hml, hown, hts, hA, hst, hvc⟩ := hX
  intro H locs ls wd hS hv
  exact lv_icmp_lt hx hb d ht (fun h => kt h H locs ls wd hS hv) (fun h => kf h H locs ls wd hS hv)
theorem g_icmp_ge {x y : Int32} {off : Int} (hX : xOK K X own cc nL) (tgt : Nat) (d : decode cc pc = .ok (.if_icmp .ge off, 3)) (ht : (pc : Int) + off = (tgt : Int)) (kt : y ≤ x → xG K X S tgt lv st) (kf : ¬ y ≤ x → xG K X S (pc + 3) lv st) : xG K X S pc lv (.int y :: .int x :: st) := by
  obtain ⟨p, l, e, R, s, m, args, below, meth, c, ce, sl, Q, A⟩ := X
  obtain ⟨hx, hb, hml, hown, hts, hA, hst, hvc⟩ := hX
  intro H locs ls wd hS hv
  exact lv_icmp_ge hx hb d ht (fun h => kt h H locs ls wd hS hv) (fun h => kf h H locs ls wd hS hv)
theorem g_icmp_gt {x y : Int32} {off : Int} (hX : xOK K X own cc nL) (tgt : Nat) (d : decode cc pc = .ok (.if_icmp .gt off, 3)) (ht : (pc : Int) + off = (tgt : Int)) (kt : y < x → xG K X S tgt lv st) (kf : ¬ y < x → xG K X S (pc + 3) lv st) : xG K X S pc lv (.int y :: .int x :: st) := by
  obtain ⟨p, l, e, R, s, m, args, below, meth, c, ce, sl, Q, A⟩ := X
  obtain ⟨hx, hb, hml, hown, hts, hA, hst, hvc⟩ := hX
  intro H locs ls wd hS hv
  exact lv_icmp_gt hx hb d ht (fun h => kt h H locs ls wd hS hv) (fun h => kf h H locs ls wd hS hv)
theorem g_icmp_le {x y : Int32} {off : Int} (hX : xOK K X own cc nL) (tgt : Nat) (d : decode cc pc = .ok (.if_icmp .le off, 3)) (ht : (pc : Int) + off = (tgt : Int)) (kt : x ≤ y → xG K X S tgt lv st) (kf : ¬ x ≤ y → xG K X S (pc + 3) lv st) : xG K X S pc lv (.int y :: .int x :: st) := by
  obtain ⟨p, l, e, R, s, m, args, below, meth, c, ce, sl, Q, A⟩ := X
  obtain ⟨hx, hb, hml, hown, hts, hA, hst, hvc⟩ := hX
  intro H locs ls wd hS hv
  exact lv_icmp_le hx hb d ht (fun h => kt h H locs ls wd hS hv) (fun h => kf h H locs ls wd hS hv)
theorem g_if_eq {x : Int32} {off : Int} (hX : xOK K X own cc nL) (tgt : Nat) (d : decode cc pc = .ok (.ifCond .eq off, 3)) (ht : (pc : Int) + off = (tgt : Int)) (kt : x = 0 → xG K X S tgt lv st) (kf : ¬ x = 0 → xG K X S (pc + 3) lv st) : xG K X S pc lv (.int x :: st) := by
  obtain ⟨p, l, e, R, s, m, args, below, meth, c, ce, sl, Q, A⟩ := X
  obtain ⟨hx, hb, hml, hown, hts, hA, hst, hvc⟩ := hX
  intro H locs ls wd hS hv
  exact lv_if_eq hx hb d ht (fun h => kt h H locs ls wd hS hv) (fun h => kf h H locs ls wd hS hv)
theorem g_if_ne {x : Int32} {off : Int} (hX : xOK K X own cc nL) (tgt : Nat) (d : decode cc pc = .ok (.ifCond .ne off, 3)) (ht : (pc : Int) + off = (tgt : Int)) (kt : ¬ x = 0 → xG K X S tgt lv st) (kf : x = 0 → xG K X S (pc + 3) lv st) : xG K X S pc lv (.int x :: st) := by
  obtain ⟨p, l, e, R, s, m, args, below, meth, c, ce, sl, Q, A⟩ := X
  obtain ⟨hx, hb, hml, hown, hts, hA, hst, hvc⟩ := hX
  intro H locs ls wd hS hv
  exact lv_if_ne hx hb d ht (fun h => kt h H locs ls wd hS hv) (fun h => kf h H locs ls wd hS hv)
theorem g_if_lt {x : Int32} {off : Int} (hX : xOK K X own cc nL) (tgt : Nat) (d : decode cc pc = .ok (.ifCond .lt off, 3)) (ht : (pc : Int) + off = (tgt : Int)) (kt : x < 0 → xG K X S tgt lv st) (kf : ¬ x < 0 → xG K X S (pc + 3) lv st) : xG K X S pc lv (.int x :: st) := by
  obtain ⟨p, l, e, R, s, m, args, below, meth, c, ce, sl, Q, A⟩ := X
  obtain ⟨hx, hb, hml, hown, hts, hA, hst, hvc⟩ := hX
  intro H locs ls wd hS hv
  exact lv_if_lt hx hb d ht (fun h => kt h H locs ls wd hS hv) (fun h => kf h H locs ls wd hS hv)
theorem g_if_ge {x : Int32} {off : Int} (hX : xOK K X own cc nL) (tgt : Nat) (d : decode cc pc = .ok (.ifCond .ge off, 3)) (ht : (pc : Int) + off = (tgt : Int)) (kt : 0 ≤ x → xG K X S tgt lv st) (kf : ¬ 0 ≤ x → xG K X S (pc + 3) lv st) : xG K X S pc lv (.int x :: st) := by
  obtain ⟨p, l, e, R, s, m, args, below, meth, c, ce, sl, Q, A⟩ := X
  obtain ⟨hx, hb, hml, hown, hts, hA, hst, hvc⟩ := hX
  intro H locs ls wd hS hv
  exact lv_if_ge hx hb d ht (fun h => kt h H locs ls wd hS hv) (fun h => kf h H locs ls wd hS hv)
theorem g_if_gt {x : Int32} {off : Int} (hX : xOK K X own cc nL) (tgt : Nat) (d : decode cc pc = .ok (.ifCond .gt off, 3)) (ht : (pc : Int) + off = (tgt : Int)) (kt : 0 < x → xG K X S tgt lv st) (kf : ¬ 0 < x → xG K X S (pc + 3) lv st) : xG K X S pc lv (.int x :: st) := by
  obtain ⟨p, l, e, R, s, m, args, below, meth, c, ce, sl, Q, A⟩ := X
  obtain ⟨hx, hb, hml, hown, hts, hA, hst, hvc⟩ := hX
  intro H locs ls wd hS hv
  exact lv_if_gt hx hb d ht (fun h => kt h H locs ls wd hS hv) (fun h => kf h H locs ls wd hS hv)
theorem g_if_le {x : Int32} {off : Int} (hX : xOK K X own cc nL) (tgt : Nat) (d : decode cc pc = .ok (.ifCond .le off, 3)) (ht : (pc : Int) + off = (tgt : Int)) (kt : x ≤ 0 → xG K X S tgt lv st) (kf : ¬ x ≤ 0 → xG K X S (pc + 3) lv st) : xG K X S pc lv (.int x :: st) := by
  obtain ⟨p, l, e, R, s, m, args, below, meth, c, ce, sl, Q, A⟩ := X
  obtain ⟨hx, hb, hml, hown, hts, hA, hst, hvc⟩ := hX
  intro H locs ls wd hS hv
  exact lv_if_le hx hb d ht (fun h => kt h H locs ls wd hS hv) (fun h => kf h H locs ls wd hS hv)
theorem g_ifnonnull {off : Int} {t o : Nat} (hX : xOK K X own cc nL) (tgt : Nat) (d : decode cc pc = .ok (.ifnonnull off, 3)) (ht : (pc : Int) + off = (tgt : Int)) (kk : xG K X S tgt lv st) : xG K X S pc lv (xr K t o :: st) := by
  obtain ⟨p, l, e, R, s, m, args, below, meth, c, ce, sl, Q, A⟩ := X
  obtain ⟨hx, hb, hml, hown, hts, hA, hst, hvc⟩ := hX
  intro H locs ls wd hS hv
  exact lv_ifnonnull hx hb d ht (kk H locs ls wd hS hv)
theorem g_ifnull {off : Int} {t o : Nat} (hX : xOK K X own cc nL) (d : decode cc pc = .ok (.ifnull off, 3)) (kk : xG K X S (pc + 3) lv st) : xG K X S pc lv (xr K t o :: st) := by
  obtain ⟨p, l, e, R, s, m, args, below, meth, c, ce, sl, Q, A⟩ := X
  obtain ⟨hx, hb, hml, hown, hts, hA, hst, hvc⟩ := hX
  intro H locs ls wd hS hv
  exact lv_ifnull hx hb d (kk H locs ls wd hS hv)
theorem g_tsOut {dflt lo hi : Int} {offs : Array Int} {len : Nat} {x : Int32} (hX : xOK K X own cc nL) (tgt : Nat) (d : decode cc pc = .ok (.tableswitch dflt lo hi offs, len)) (h : x.toInt < lo ∨ hi < x.toInt) (ht : (pc : Int) + dflt = (tgt : Int)) (kk : xG K X S tgt lv st) : xG K X S pc lv (.int x :: st) := by
  obtain ⟨p, l, e, R, s, m, args, below, meth, c, ce, sl, Q, A⟩ := X
  obtain ⟨hx, hb, hml, hown, hts, hA, hst, hvc⟩ := hX
  intro H locs ls wd hS hv
  exact lv_tableOut hx hb d h ht (kk H locs ls wd hS hv)
theorem g_tsIn {dflt lo hi : Int} {offs : Array Int} {len : Nat} {x : Int32} {off : Int} (hX : xOK K X own cc nL) (tgt : Nat) (d : decode cc pc = .ok (.tableswitch dflt lo hi offs, len)) (h : ¬ (x.toInt < lo ∨ hi < x.toInt)) (n : Nat) (hn : (x.toInt - lo).toNat = n) (ho : offs[n]? = some off) (ht : (pc : Int) + off = (tgt : Int)) (kk : xG K X S tgt lv st) : xG K X S pc lv (.int x :: st) := by
  obtain ⟨p, l, e, R, s, m, args, below, meth, c, ce, sl, Q, A⟩ := X
  obtain ⟨hx, hb, hml, hown, hts, hA, hst, hvc⟩ := hX
  intro H locs ls wd hS hv
  exact lv_tableIn hx hb d (fun q => h (Or.inl q)) (fun q => h (Or.inr q)) (by rw [hn]; exact ho) ht (kk H locs ls wd hS hv)
theorem g_sub {lv2 : List (Nat × Value)} (ks : List Nat) (hl : lv_pick lv ks = lv2) (kk : xG K X S pc lv2 st) : xG K X S pc lv st := by
  obtain ⟨p, l, e, R, s, m, args, below, meth, c, ce, sl, Q, A⟩ := X
  intro H locs ls wd hS hv
  exact kk H locs ls wd hS (lv_sub hv ks hl)
theorem g_pc {pc2 : Nat} (h : pc = pc2) (kk : xG K X S pc2 lv st) : xG K X S pc lv st := by subst h; exact kk
end XG

/-! rows over the world -/
theorem xws_at {K : xK} {S : xSt} {t o : Nat} (h : (t, o) ∈ xvl K) : ∃ k : Nat, (xvl K)[k]? = some (t, o) ∧ (xws K S)[k]? = some (xad K t o, xE K (S t o) t o) := by
  obtain ⟨k, hk⟩ := List.getElem?_of_mem h
  exact ⟨k, hk, by rw [xws, List.getElem?_map, hk]; rfl⟩
theorem xws_set {K : xK} {S : xSt} {t o k : Nat} {B : Nat → Prop} (hD : va_D B (xws K S)) (hk : (xvl K)[k]? = some (t, o)) (f : Nat → Int32) : (xws K S).set k (xad K t o, xE K f t o) = xws K (xua S t o f) := by
  apply List.ext_getElem?
  intro i
  rw [List.getElem?_set]
  by_cases hi : k = i
  · subst hi
    have hlt : k < (xws K S).length := by
      rw [xws, List.length_map]
      exact (List.getElem?_eq_some_iff.mp hk).1
    rw [if_pos rfl, if_pos hlt, xws, List.getElem?_map, hk]
    simp only [Option.map_some, xua_s]
  · rw [if_neg hi, xws, xws, List.getElem?_map, List.getElem?_map]
    cases hq : (xvl K)[i]? with
    | none => rfl
    | some q =>
      simp only [Option.map_some]
      by_cases he : q.1 = t ∧ q.2 = o
      · exfalso
        apply hi
        refine hD.1 k i (xad K t o, xE K (S t o) t o) (xad K t o, xE K (S t o) t o) ?_ ?_ rfl
        · rw [xws, List.getElem?_map, hk]; rfl
        · rw [xws, List.getElem?_map, hq]
          obtain ⟨q1, q2⟩ := q
          obtain ⟨e1, e2⟩ := he
          subst e1; subst e2; rfl
      · rw [xua_n _ _ he]
theorem xWd_A {K : xK} {S : xSt} {A : Nat → Prop} (h : va_D (fun _ => True) (xws K S)) (hA : ∀ t o, (t, o) ∈ xvl K → A (xad K t o)) : va_D A (xws K S) := by
  refine ⟨h.1, fun k q hk => ?_⟩
  rw [xws, List.getElem?_map] at hk
  cases hq : (xvl K)[k]? with
  | none => rw [hq] at hk; cases hk
  | some z =>
    rw [hq] at hk
    cases hk
    exact hA _ _ (List.mem_of_getElem? hq)
/-- what the tables say of a field of class t at place idx of own's pool: slot j, an int -/
def xFB (own : String) (idx t j : Nat) : Prop := ∃ (C : String) (T : u_T) (N : Nat) (ty0 : Nat → FieldType), vwCl[t]? = some (C, T, N) ∧ j < N ∧ (∀ w ∈ u_ws C T N, w ∈ xTB) ∧ (∀ k, k < N → parseFieldDescriptor (T k).2.2.1 = some (ty0 k)) ∧ (∀ a, a < N → ∀ b, b < N → a ≠ b → (T a).2.1 ≠ (T b).2.1) ∧ (Cond.fieldLink own idx (T j).1 (T j).2.1 (T j).2.2.1 ∈ xTB ∨ ∃ host, Cond.fieldLinkNest own idx (T j).1 (T j).2.1 (T j).2.2.1 host ∈ xNL) ∧
  (∀ (K : xK) (f : Nat → Int32) (o : Nat), (xfs K f t o).length = N ∧ xE K f t o = .inr (t, xfs K f t o))
def xFI (own : String) (idx t j : Nat) : Prop := xFB own idx t j ∧ (∃ (C : String) (T : u_T) (N : Nat), vwCl[t]? = some (C, T, N) ∧ (T j).2.2.2 = false ∧ parseFieldDescriptor (T j).2.2.1 = some .int) ∧
  (∀ (K : xK) (f : Nat → Int32) (o : Nat), (xfs K f t o)[j]? = some (.int (f j))) ∧ (∀ (K : xK) (f : Nat → Int32) (o : Nat) (v : Int32), xfs K (upd f j v) t o = (xfs K f t o).set j (.int v))
def xFR (own : String) (idx t j o t2 o2 : Nat) : Prop := xFB own idx t j ∧ ∀ (K : xK) (f : Nat → Int32), (xfs K f t o)[j]? = some (xr K t2 o2)
section XW
variable {K : xK} {X : xX} {own : String} {cc : ByteArray} {nL : Nat} {S : xSt} {pc : Nat} {lv : List (Nat × Value)} {st : List Value}
theorem g_getV {t o j idx : Nat} {v : Value} (hX : xOK K X own cc nL) (hV : (t, o) ∈ xvl K) (hF : xFB own idx t j) (hf : (xfs K (S t o) t o)[j]? = some v) (d : decode cc pc = .ok (.getfield idx, 3)) (kk : xG K X S (pc + 3) lv (v :: st)) : xG K X S pc lv (xr K t o :: st) := by
  obtain ⟨p, l, e, R, s, m, args, below, meth, c, ce, sl, Q, A⟩ := X
  obtain ⟨hx, hb, hml, hown, hts, hA, hst, hvc⟩ := hX
  intro H locs ls wd hS hv
  obtain ⟨C, T, N, ty0, h1, h2, h3, h4, h5, h6, h7⟩ := hF
  obtain ⟨k, hk, he⟩ := xws_at (S := S) hV
  rw [(h7 K (S t o) o).2] at he
  rcases h6 with h6 | ⟨host, h6⟩
  · exact va_get hx hb hts h3 hown wd.2.1 wd.1 k he h1 j h2 (hts _ h6) (fun _ h9 => h9) hf d (kk H locs ls wd hS hv)
  · exact va_getN hx hb hts h3 hown wd.2.1 wd.1 k he h1 j h2 (xNw_use hvc.2 h6 _) (fun _ h9 => h9) hf d (kk H locs ls wd hS hv)
theorem g_getI {t o j idx : Nat} (hX : xOK K X own cc nL) (hV : (t, o) ∈ xvl K) (hF : xFI own idx t j) (d : decode cc pc = .ok (.getfield idx, 3)) (kk : xG K X S (pc + 3) lv (.int (S t o j) :: st)) : xG K X S pc lv (xr K t o :: st) := g_getV hX hV hF.1 (hF.2.2.1 K (S t o) o) d kk
theorem g_getR {t o j idx t2 o2 : Nat} (hX : xOK K X own cc nL) (hV : (t, o) ∈ xvl K) (hF : xFR own idx t j o t2 o2) (d : decode cc pc = .ok (.getfield idx, 3)) (kk : xG K X S (pc + 3) lv (xr K t2 o2 :: st)) : xG K X S pc lv (xr K t o :: st) := g_getV hX hV hF.1 (hF.2 K (S t o)) d kk
theorem g_putI {t o j idx : Nat} {v : Int32} {S1 : xSt} (hX : xOK K X own cc nL) (hV : (t, o) ∈ xvl K) (hF : xFI own idx t j) (d : decode cc pc = .ok (.putfield idx, 3)) (e9 : xup S t o j v = S1) (kk : xG K X S1 (pc + 3) lv st) : xG K X S pc lv (.int v :: xr K t o :: st) := by
  obtain ⟨p, l, e, R, s, m, args, below, meth, c, ce, sl, Q, A⟩ := X
  obtain ⟨hx, hb, hml, hown, hts, hA, hst, hvc⟩ := hX
  intro H locs ls wd hS hv
  obtain ⟨⟨C, T, N, ty0, h1, h2, h3, h4, h5, h6, h7⟩, ⟨C', T', N', g1, g2, g3⟩, g4, g5⟩ := hF
  cases h1.symm.trans g1
  obtain ⟨k, hk, he⟩ := xws_at (S := S) hV
  rw [(h7 K (S t o) o).2] at he
  have hset : (xws K S).set k (xad K t o, .inr (t, (xfs K (S t o) t o).set j (.int v))) = xws K S1 := by
    rw [← g5 K (S t o) o v, ← (h7 K (upd (S t o) j v) o).2, ← e9]
    exact xws_set wd.2.2 hk _
  have hlen : j < (xfs K (S t o) t o).length := by rw [(h7 K (S t o) o).1]; exact h2
  have go : ∀ (H1 : Heap) (locs1 : List Loc), va_P K.1 vwCl ((xws K S).set k (xad K t o, .inr (t, (xfs K (S t o) t o).set j (.int v)))) H1 → va_D A ((xws K S).set k (xad K t o, .inr (t, (xfs K (S t o) t o).set j (.int v)))) → va_S A s.heap H1 locs1 → W p l e R s m args below meth c H1 locs1 ce sl Q (F0 m (pc + 3) ls st) := by
    intro H1 locs1 hP hD hS1
    rw [hset] at hP hD
    exact kk H1 locs1 ls ⟨hP, wd.2.1, ⟨hD.1, fun _ _ _ => trivial⟩⟩ hS1 hv
  rcases h6 with h6 | ⟨host, h6⟩
  · exact va_put hx hb hts h3 ty0 h4 h5 hown wd.2.1 wd.1 (xWd_A wd.2.2 hA) hS k he h1 j h2 (hts _ h6) (fun _ h9 => h9) g2 g3 rfl rfl hlen d go
  · exact va_putN hx hb hts h3 ty0 h4 h5 hown wd.2.1 wd.1 (xWd_A wd.2.2 hA) hS k he h1 j h2 (xNw_use hvc.2 h6 _) (fun _ h9 => h9) g2 g3 rfl rfl hlen d go
/-- rows of ints -/
theorem g_iald {t o n : Nat} {i : Int32} (hX : xOK K X own cc nL) (hV : (t, o) ∈ xvl K) (hE : xE K (S t o) t o = .inl (xcy K 0, n, .inl (S t o))) (hin : vp_in i n) (d : decode cc pc = .ok (.iaload, 1)) (kk : xG K X S (pc + 1) lv (.int (S t o i.toNatClampNeg) :: st)) : xG K X S pc lv (.int i :: xr K t o :: st) := by
  obtain ⟨p, l, e, R, s, m, args, below, meth, c, ce, sl, Q, A⟩ := X
  obtain ⟨hx, hb, hml, hown, hts, hA, hst, hvc⟩ := hX
  intro H locs ls wd hS hv
  obtain ⟨k, hk, he⟩ := xws_at (S := S) hV
  rw [hE] at he
  exact va_iald hx hb wd.2.1 wd.1 k 0 he rfl hin d (kk H locs ls wd hS hv)
theorem g_iast {t o n : Nat} {i x : Int32} {S1 : xSt} (hX : xOK K X own cc nL) (hV : (t, o) ∈ xvl K) (hE : ∀ f, xE K f t o = .inl (xcy K 0, n, .inl f)) (hin : vp_in i n) (d : decode cc pc = .ok (.iastore, 1)) (e9 : xup S t o i.toNatClampNeg x = S1) (kk : xG K X S1 (pc + 1) lv st) : xG K X S pc lv (.int x :: .int i :: xr K t o :: st) := by
  obtain ⟨p, l, e, R, s, m, args, below, meth, c, ce, sl, Q, A⟩ := X
  obtain ⟨hx, hb, hml, hown, hts, hA, hst, hvc⟩ := hX
  intro H locs ls wd hS hv
  obtain ⟨k, hk, he⟩ := xws_at (S := S) hV
  rw [hE] at he
  refine va_iast hx hb wd.2.1 wd.1 (xWd_A wd.2.2 hA) hS k 0 he rfl hin d (fun H1 locs1 hP hD hS1 => ?_)
  rw [← hE, xws_set wd.2.2 hk] at hP hD
  have e9 : xua S t o (upd (S t o) i.toNatClampNeg x) = S1 := e9
  rw [e9] at hP hD
  exact kk H1 locs1 ls ⟨hP, wd.2.1, ⟨hD.1, fun _ _ _ => trivial⟩⟩ hS1 hv
/-- rows of booleans, of bytes -/
theorem g_zald {t o n : Nat} {i : Int32} (hX : xOK K X own cc nL) (hV : (t, o) ∈ xvl K) (hE : xE K (S t o) t o = .inl (xcy K 1, n, .inl (S t o))) (hin : vp_in i n) (d : decode cc pc = .ok (.baload, 1)) (kk : xG K X S (pc + 1) lv (.int (S t o i.toNatClampNeg) :: st)) : xG K X S pc lv (.int i :: xr K t o :: st) := by
  obtain ⟨p, l, e, R, s, m, args, below, meth, c, ce, sl, Q, A⟩ := X
  obtain ⟨hx, hb, hml, hown, hts, hA, hst, hvc⟩ := hX
  intro H locs ls wd hS hv
  obtain ⟨k, hk, he⟩ := xws_at (S := S) hV
  rw [hE] at he
  exact va_zald hx hb wd.2.1 wd.1 k 1 he rfl hin d (kk H locs ls wd hS hv)
theorem g_zast {t o n : Nat} {i x : Int32} {S1 : xSt} (hX : xOK K X own cc nL) (hV : (t, o) ∈ xvl K) (hE : ∀ f, xE K f t o = .inl (xcy K 1, n, .inl f)) (hin : vp_in i n) (d : decode cc pc = .ok (.bastore, 1)) (e9 : xup S t o i.toNatClampNeg (vp_nar .boolean x) = S1) (kk : xG K X S1 (pc + 1) lv st) : xG K X S pc lv (.int x :: .int i :: xr K t o :: st) := by
  obtain ⟨p, l, e, R, s, m, args, below, meth, c, ce, sl, Q, A⟩ := X
  obtain ⟨hx, hb, hml, hown, hts, hA, hst, hvc⟩ := hX
  intro H locs ls wd hS hv
  obtain ⟨k, hk, he⟩ := xws_at (S := S) hV
  rw [hE] at he
  refine va_zast hx hb wd.2.1 wd.1 (xWd_A wd.2.2 hA) hS k 1 he rfl hin d (fun H1 locs1 hP hD hS1 => ?_)
  rw [← hE, xws_set wd.2.2 hk] at hP hD
  have e9 : xua S t o (upd (S t o) i.toNatClampNeg (vp_nar .boolean x)) = S1 := e9
  rw [e9] at hP hD
  exact kk H1 locs1 ls ⟨hP, wd.2.1, ⟨hD.1, fun _ _ _ => trivial⟩⟩ hS1 hv
/-- rows of States -/
theorem g_aald {t o n b : Nat} {i : Int32} (hX : xOK K X own cc nL) (hV : (t, o) ∈ xvl K) (hE : xE K (S t o) t o = .inl (xcy K 3, n, .inr (.inr (.inr (.inr (fun i => some (xad K 4 (b + i)))))))) (hin : vp_in i n) (d : decode cc pc = .ok (.aaload, 1)) (kk : xG K X S (pc + 1) lv (xr K 4 (b + i.toNatClampNeg) :: st)) : xG K X S pc lv (.int i :: xr K t o :: st) := by
  obtain ⟨p, l, e, R, s, m, args, below, meth, c, ce, sl, Q, A⟩ := X
  obtain ⟨hx, hb, hml, hown, hts, hA, hst, hvc⟩ := hX
  intro H locs ls wd hS hv
  obtain ⟨k, hk, he⟩ := xws_at (S := S) hV
  rw [hE] at he
  exact va_aldq hx hb wd.2.1 wd.1 k 3 he rfl hin d (kk H locs ls wd hS hv)
theorem g_alen {t o : Nat} {x : vp_A} {q : Nat} {v : Int32} (hX : xOK K X own cc nL) (hV : (t, o) ∈ xvl K) {cA : ClassId} {ty : FieldType} (hE : xE K (S t o) t o = .inl (cA, x)) (hq : (xtys K)[q]? = some (cA, ty)) (hv9 : Int32.ofNat x.1 = v) (d : decode cc pc = .ok (.arraylength, 1)) (kk : xG K X S (pc + 1) lv (.int v :: st)) : xG K X S pc lv (xr K t o :: st) := by
  obtain ⟨p, l, e, R, s, m, args, below, meth, c, ce, sl, Q, A⟩ := X
  obtain ⟨hx, hb, hml, hown, hts, hA, hst, hvc⟩ := hX
  intro H locs ls wd hS hv
  obtain ⟨k, hk, he⟩ := xws_at (S := S) hV
  rw [hE] at he
  exact va_alen hx hb wd.2.1 wd.1 k q he hq hv9 d (kk H locs ls wd hS hv)
/-- the static rows -/
def xSL (own : String) (idx : Nat) (n : String) : Prop := Cond.fieldLink own idx "GrowingBook" n "[I" ∈ xTB ∨ ∃ host, Cond.fieldLinkNest own idx "GrowingBook" n "[I" host ∈ xNL
def xSn (k : Nat) : String := if k = 0 then "LOWEST" else if k = 1 then "HIGHEST" else "FIRST"
def xSf (k : Nat) : Nat → Int32 := if k = 0 then xLO else if k = 1 then xHI else xFI0
theorem xStt_Z {K : xK} {A : Nat → Prop} {U : State} {H : Heap} (h : xStt K A U H) (k : Nat) (hk : k < 3) : va_Z "GrowingBook" (xSn k) "[I" (xrs K k) A U H ∧ va_T .int (xsa K k) 3 (fun i => .int (xSf k i)) A U H := by
  obtain ⟨a1, a2, b1, b2, c1, c2, -⟩ := h
  rcases (show k = 0 ∨ k = 1 ∨ k = 2 by omega) with rfl | rfl | rfl
  · exact ⟨a1, a2⟩
  · exact ⟨b1, b2⟩
  · exact ⟨c1, c2⟩
theorem g_gets {k idx : Nat} (hX : xOK K X own cc nL) (hk : k < 3) (hF : xSL own idx (xSn k)) (d : decode cc pc = .ok (.getstatic idx, 3)) (kk : xG K X S (pc + 3) lv (xrs K k :: st)) : xG K X S pc lv st := by
  obtain ⟨p, l, e, R, s, m, args, below, meth, c, ce, sl, Q, A⟩ := X
  obtain ⟨hx, hb, hml, hown, hts, hA, hst, hvc⟩ := hX
  intro H locs ls wd hS hv
  rcases hF with hF | ⟨host, hF⟩
  · exact va_gets hx hb (xStt_Z hst k hk).1 hS hown (hts _ hF) (fun _ h9 => h9) d (kk H locs ls wd hS hv)
  · exact va_getsN hx hb (xStt_Z hst k hk).1 hS hown (xNw_use hvc.2 hF _) (fun _ h9 => h9) d (kk H locs ls wd hS hv)
theorem g_ialdS {k : Nat} {i : Int32} (hX : xOK K X own cc nL) (hk : k < 3) (hin : vp_in i 3) (d : decode cc pc = .ok (.iaload, 1)) (kk : xG K X S (pc + 1) lv (.int (xSf k i.toNatClampNeg) :: st)) : xG K X S pc lv (.int i :: xrs K k :: st) := by
  obtain ⟨p, l, e, R, s, m, args, below, meth, c, ce, sl, Q, A⟩ := X
  obtain ⟨hx, hb, hml, hown, hts, hA, hst, hvc⟩ := hX
  intro H locs ls wd hS hv
  exact va_ti hx hb (xStt_Z hst k hk).2 hS hin rfl d (kk H locs ls wd hS hv)
/-- the script -/
theorem g_ialdx {i : Int32} {L : Nat} {xs : Nat → Int32} (hX : xOK K X own cc nL) (hL : xsa K 4 = L) (hxs : xxs K = xs) (hin : vp_in i L) (d : decode cc pc = .ok (.iaload, 1)) (kk : xG K X S (pc + 1) lv (.int (xs i.toNatClampNeg) :: st)) : xG K X S pc lv (.int i :: xrs K 3 :: st) := by
  obtain ⟨p, l, e, R, s, m, args, below, meth, c, ce, sl, Q, A⟩ := X
  obtain ⟨hx, hb, hml, hown, hts, hA, hst, hvc⟩ := hX
  intro H locs ls wd hS hv
  subst hL
  subst hxs
  exact va_ti hx hb hst.2.2.2.2.2.2 hS hin rfl d (kk H locs ls wd hS hv)
theorem g_slenx {L : Nat} (hX : xOK K X own cc nL) (hL : xsa K 4 = L) (d : decode cc pc = .ok (.arraylength, 1)) (kk : xG K X S (pc + 1) lv (.int (nI L) :: st)) : xG K X S pc lv (xrs K 3 :: st) := by
  obtain ⟨p, l, e, R, s, m, args, below, meth, c, ce, sl, Q, A⟩ := X
  obtain ⟨hx, hb, hml, hown, hts, hA, hst, hvc⟩ := hX
  intro H locs ls wd hS hv
  subst hL
  exact va_tlen hx hb hst.2.2.2.2.2.2 hS rfl d (kk H locs ls wd hS hv)
end XW

