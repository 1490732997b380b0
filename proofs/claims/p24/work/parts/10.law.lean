/-! THE CLAIM OUT OF ONE WALK OF THE LAW'S BODY. Your part is whole_start (and what it stands on); all else here is the same for every law, but numbers. -/
def R_law : String := "GrowingBookLaw"
def lw_P (b : Addr) (xs : List Int32) (args : Array Value) (s : State) : Prop := args = #[.ref b] ∧ s.IntsAt b xs ∧ xs.length ≤ 260 ∧ (Jvm.Cond.and given_1 narrow_1).before args s = true
def lw_Q (_ : Array Value) (s : State) (o : Outcome) (t : State) : Prop := o = .returned (some (.int 1)) ∧ Framed s o t [] 600000 7302250
def lw_Z (below : List Frame) (a : Array Value) (s : State) : State → Prop := fun t => ∃ o, t.status = .running ∧ Ended t below o ∧ lw_Q a s o t
/-- the law's own end, with 1 on the stack, nothing written that was there before, its room as the claim has it -/
theorem lw_ret {p : Program} {l : Launch} {e : Env} {s : State} {m : MethodId} {below : List Frame} {meth : Method} {c : Code} {b : Nat} (hx : p.tables.exec = Jvm.exec) (hb : c.code = code) (hr : meth.sig.returnType = ret) (hlocks : meth.locks = false) {pc : Nat} {H : Heap} {ls : Array Slot} (hdg : decode code pc = .ok (.ireturn, 1)) : W p l e room_1 s m #[Value.ref b] below meth c H [] 600000 7302250 (lw_Z below #[Value.ref b] s) (F0 m pc ls [.int 1]) := by
  intro T hT X
  obtain ⟨fs, hret, hrun, hended, hW, hframe⟩ := X.leave (v := some (.int 1)) (hlocks := hlocks) (fun h => by rw [hr] at h; cases h)
  have hmeth' : T.vm.method? m = some meth := X.method'
  refine ⟨T.setFrames fs, ?_, .returned (some (.int 1)), hrun, hended, rfl, ⟨_, rfl⟩, hW, hframe⟩
  jvm_step X.here [X.here.top, hx, hb, hdg, hmeth', hr, ret, narrow_b1]
  (try refine ⟨rfl, ?_⟩); (try refine ⟨rfl, ?_⟩)
  first | (intro acts; rw [hret _ acts rfl rfl rfl]) | rw [hret _ _ rfl rfl rfl]
  exact Steps.refl _
/-- what holds at the law's entry: the machine, the code, the tables' words (any of lw_tbl by 'hts w (by decide +kernel)'), the script of L ints xs at the cell b, what the Statement gives of the start (any of its parts by flat_of_before) -/
def lw_At (p : Program) (s : State) (m : MethodId) (meth : Method) (c : Code) (b L : Nat) (xs : Nat → Int32) : Prop :=
  p.tables.exec = Jvm.exec ∧ c.code = code ∧ meth.sig.returnType = ret ∧ c.maxLocals = 4 ∧ s.vm.findClass R_law = some m.cls ∧ (∀ w ∈ lw_tbl, w.before #[Value.ref b] s = true) ∧ va_X b L xs s s.heap ∧ b < s.heap.size ∧ meth.locks = false ∧ (Jvm.Cond.and given_1 narrow_1).before #[Value.ref b] s = true
/-! the law: its own rows -/
def xLaw (X : xX) (b rc rs : Nat) : Prop := match X with
  | (p, l, e, R, s, m, args, below, meth, c, ce, sl, Q, A) => R = room_1 ∧ args = #[Value.ref b] ∧ meth.sig.returnType = ret ∧ meth.locks = false ∧ Q = lw_Z below #[Value.ref b] s ∧ ce + rc ≤ 600000 ∧ sl + rs ≤ 7302250 ∧ A = (fun q : Nat => s.heap.size ≤ q)
theorem xLaw_kA {X : xX} {b rc rs k n rc2 rs2 : Nat} (h : xLaw X b rc rs) (h1 : k + rc2 ≤ rc) (h2 : n + rs2 ≤ rs) : xLaw (kA X k n) b rc2 rs2 := by
  obtain ⟨p, l, e, R, s, m, args, below, meth, c, ce, sl, Q, A⟩ := X
  obtain ⟨l1, l2, l3, l4, l5, l6, l7, l8⟩ := h
  exact ⟨l1, l2, l3, l4, l5, by omega, by omega, l8⟩
theorem xRm_kL {X : xX} {b rc rs k n fr lo : Nat} (h : xLaw X b rc rs) (hR : xRm X fr lo) (h1 : k ≤ rc) (h2 : n ≤ rs) : xRm (kA X k n) fr lo := by
  obtain ⟨p, l, e, R, s, m, args, below, meth, c, ce, sl, Q, A⟩ := X
  obtain ⟨rfl, l2, l3, l4, l5, l6, l7, l8⟩ := h
  obtain ⟨r1, r2, r3, r4⟩ := hR
  exact ⟨r1, r2, show ce + k ≤ 600000 by omega, show sl + n ≤ 7302250 by omega⟩
/-- how often the law's own loops may go round -/
def xFL : Nat := 100
section XL
variable {K : xK} {X : xX} {own : String} {cc : ByteArray} {nL : Nat} {S : xSt} {pc : Nat} {lv : List (Nat × Value)} {st : List Value} {b : Nat}
theorem g_lret {v : Int32} {rc rs : Nat} (hX : xOK K X own code nL) (hQ : xLaw X b rc rs) (hz : v = 1) (d : decode code pc = .ok (.ireturn, 1)) : xG K X S pc lv [.int v] := by
  obtain ⟨p, l, e, R, s, m, args, below, meth, c, ce, sl, Q, A⟩ := X
  obtain ⟨hx, hb, hml, hown, hts, hA, hst, hvc⟩ := hX
  obtain ⟨rfl, rfl, l3, l4, rfl, l6, l7, rfl⟩ := hQ
  intro H locs ls wd hS hv
  subst hz
  refine va_forget (fun q hq => hS.2.2 q hq) ?_
  refine W.widen (k := 600000) (n := 7302250) (by omega) (by omega) ?_
  exact lw_ret hx hb l3 l4 d
end XL
def fW_law_J122  (L : Nat) (xs : Nat → Int32)  (S : xSt)  : Option xR :=
  xbI (fW_agree S) fun S1 r2 =>
  xne (r2 = 1) (some (S1, some (.int r2)))
def bW_law_L87  (L : Nat) (xs : Nat → Int32)  (k87 : xSt → Int32 → Option xR) (S : xSt) (i3 : Int32) : Option xR :=
  if (22 : Int32) ≤ i3 then
    fW_law_J122 L xs S 
  else
    xbI (fW_agree S) fun S1 r2 =>
    if r2 = 0 then
      xne ((0 : Int32) = 1) (some (S1, some (.int (0 : Int32))))
    else
      xbI (fW_isAct S1 L xs ((30 : Int32) + ((4 : Int32) * i3))) fun S3 r4 =>
      if r4 = 0 then
        xne ((0 : Int32) = 1) (some (S3, some (.int (0 : Int32))))
      else
        k87 S3 (i3 + (1 : Int32))
def fW_law_L87  (L : Nat) (xs : Nat → Int32)  : Nat → xSt → Int32 → Option xR
  | 0 => fun _ _ => none
  | n + 1 => bW_law_L87  L xs  (fW_law_L87  L xs  n)
def fW_law_J85  (L : Nat) (xs : Nat → Int32)  (S : xSt)  : Option xR :=
  fW_law_L87 L xs xFL S (0 : Int32)
def bW_law_L52  (L : Nat) (xs : Nat → Int32)  (k52 : xSt → Int32 → Int32 → Option xR) (S : xSt) (i2 : Int32) (i3 : Int32) : Option xR :=
  if (24 : Int32) ≤ i3 then
    fW_law_J85 L xs S 
  else
    xbI (fW_cell S L xs ((3 : Int32) + i3) i2) fun S1 r2 =>
    xbI (f6_add S1 r2 (1 : Int32)) fun S3 r4 =>
    if r4 = (i3 + (1 : Int32)) then
      k52 S3 i2 (i3 + (1 : Int32))
    else
      xne ((0 : Int32) = 1) (some (S3, some (.int (0 : Int32))))
def fW_law_L52  (L : Nat) (xs : Nat → Int32)  : Nat → xSt → Int32 → Int32 → Option xR
  | 0 => fun _ _ _ => none
  | n + 1 => bW_law_L52  L xs  (fW_law_L52  L xs  n)
def fW_law_J8  (L : Nat) (xs : Nat → Int32)  (S : xSt)  : Option xR :=
  xbI (fW_cell S L xs (0 : Int32) (3 : Int32)) fun S1 r2 =>
  xbI (f6_set S1 (0 : Int32) ((4 : Int32) + r2)) fun S3 r4 =>
  xbI (fW_cell S3 L xs (1 : Int32) (3 : Int32)) fun S5 r6 =>
  xbI (f6_set S5 (1 : Int32) r6) fun S7 r8 =>
  xbI (f6_set S7 (2 : Int32) (4 : Int32)) fun S9 r10 =>
  xbI (fW_cell S9 L xs (2 : Int32) (3 : Int32)) fun S11 r12 =>
  fW_law_L52 L xs xFL S11 ((2 : Int32) + r12) (0 : Int32)
set_option maxRecDepth 100000 in
theorem sfW_law_J122 {K : xK} {X : xX} {out : xR} {b rc rs : Nat}  {L : Nat} {xs : Nat → Int32} (hX : xOK K X RL cL_law 4) (hQ : xLaw X b rc rs) (hR : xRm X 11 428) (hV : (6, 0) ∈ xvl K) (hL : xsa K 4 = L) (hxs : xxs K = xs) (hN : ∀ o, (33, o) ∉ xvl K) (hcr : 5 ≤ rc ∧ 320 ≤ rs)  {S : xSt}  (h : fW_law_J122  L xs  S  = some out) : xG K X S 122 [(1, xr K 6 0)] [] := by
  unfold fW_law_J122 at h
  refine g_aload_n hX dL_law_122 rfl 0 rfl ?_
  obtain ⟨S1, r2, hcS1, h⟩ := xbI_inv h
  have hR2 := xRm_kL (k := 5) (n := 320) hQ hR (by omega) (by omega)
  refine g_callN (mc := 5) (ms := 320) hX hR hR2 (fun l => cW_agree (l := l) hX.vc hV hN hcS1) xc9_70 rfl ⟨by decide, by decide⟩ rfl rfl (Nat.le_of_ble_eq_true rfl) dL_law_123 ?_
  have hX := xOK_kA 5 320 hX
  have hQ := xLaw_kA (k := 5) (n := 320) (rc2 := rc - 5) (rs2 := rs - 320) hQ (by omega) (by omega)
  have hR := hR2
  obtain ⟨hz, h⟩ := xne_inv h
  exact g_lret hX hQ hz dL_law_126
set_option maxRecDepth 100000 in
theorem sbW_law_L87 {K : xK} {X : xX} {out : xR} {b rc rs : Nat}  {L : Nat} {xs : Nat → Int32} (hX : xOK K X RL cL_law 4) (hQ : xLaw X b rc rs) (hR : xRm X 11 428) (hV : (6, 0) ∈ xvl K) (hL : xsa K 4 = L) (hxs : xxs K = xs) (hN : ∀ o, (33, o) ∉ xvl K) (hcr : 5 ≤ rc ∧ 320 ≤ rs)  {k87 : xSt → Int32 → Option xR} (hk87 : ∀ (S : xSt) (i3 : Int32), k87 S i3 = some out → xG K (kA X 5 320) S 87 [(0, xrs K 3), (1, xr K 6 0), (3, .int i3)] []) {S : xSt} {i3 : Int32} (h : bW_law_L87  L xs  k87 S i3 = some out) : xG K X S 87 [(0, xrs K 3), (1, xr K 6 0), (3, .int i3)] [] := by
  unfold bW_law_L87 at h
  refine g_iload_n hX dL_law_87 rfl 2 rfl ?_
  refine g_bipush (v := (22 : Int32)) hX dL_law_88 (by decide) ?_
  refine g_icmp_ge hX 122 dL_law_90 (by decide) (fun hc => ?_) (fun hc => ?_)
  · have h := xif_t hc h
    exact g_sub [1] (by rfl) (sfW_law_J122 hX hQ hR hV hL hxs hN (by omega) h)
  · have h := xif_f hc h
    refine g_aload_n hX dL_law_93 rfl 1 rfl ?_
    obtain ⟨S1, r2, hcS1, h⟩ := xbI_inv h
    have hR2 := xRm_kL (k := 5) (n := 320) hQ hR (by omega) (by omega)
    refine g_callN (mc := 5) (ms := 320) hX hR hR2 (fun l => cW_agree (l := l) hX.vc hV hN hcS1) xc9_70 rfl ⟨by decide, by decide⟩ rfl rfl (Nat.le_of_ble_eq_true rfl) dL_law_94 ?_
    have hX := xOK_kA 5 320 hX
    have hQ := xLaw_kA (k := 5) (n := 320) (rc2 := rc - 5) (rs2 := rs - 320) hQ (by omega) (by omega)
    have hR := hR2
    refine g_if_eq hX 114 dL_law_97 (by decide) (fun hc => ?_) (fun hc => ?_)
    · have h := xif_t hc h
      refine g_iconst (v := (0 : Int32)) hX dL_law_114 (by decide) ?_
      obtain ⟨hz, h⟩ := xne_inv h
      exact g_lret hX hQ hz dL_law_115
    · have h := xif_f hc h
      refine g_aload_n hX dL_law_100 rfl 1 rfl ?_
      refine g_aloads_n hX dL_law_101 rfl 0 rfl ?_
      refine g_bipush (v := (30 : Int32)) hX dL_law_102 (by decide) ?_
      refine g_iconst (v := (4 : Int32)) hX dL_law_104 (by decide) ?_
      refine g_iload_n hX dL_law_105 rfl 2 rfl ?_
      refine g_imul hX dL_law_106 ?_
      refine g_iadd hX dL_law_107 ?_
      obtain ⟨S3, r4, hcS3, h⟩ := xbI_inv h
      refine g_callS hX hR (fun l => cW_isAct (l := l) hX.vc hV hL hxs hcS3) xc9_73 rfl ⟨by decide, by decide⟩ rfl rfl (Nat.le_of_ble_eq_true rfl) dL_law_108 ?_
      refine g_if_ne hX 116 dL_law_111 (by decide) (fun hc => ?_) (fun hc => ?_)
      · have h := xif_f hc h
        refine g_iinc (v := (i3 + (1 : Int32))) (lv2 := [(3, .int (i3 + (1 : Int32))), (0, xrs K 3), (1, xr K 6 0)]) hX dL_law_116 2 rfl rfl (by decide) rfl ?_
        refine g_goto hX 87 dL_law_119 (by decide) ?_
        exact g_sub [1, 2, 0] (by rfl) (hk87 _ _ h)
      · have h := xif_t hc h
        refine g_iconst (v := (0 : Int32)) hX dL_law_114 (by decide) ?_
        obtain ⟨hz, h⟩ := xne_inv h
        exact g_lret hX hQ hz dL_law_115
theorem sfW_law_L87 {K : xK} {out : xR} {b : Nat} {L : Nat} {xs : Nat → Int32} (hV : (6, 0) ∈ xvl K) (hL : xsa K 4 = L) (hxs : xxs K = xs) (hN : ∀ o, (33, o) ∉ xvl K) : ∀ (n : Nat) {X : xX} {rc rs : Nat} (_ : xOK K X RL cL_law 4) (_ : xLaw X b rc rs) (_ : xRm X 11 428) (_ : 5 * n + 5 ≤ rc ∧ 320 * n + 320 ≤ rs) (S : xSt) (i3 : Int32) (_ : fW_law_L87 L xs n S i3 = some out), xG K X S 87 [(0, xrs K 3), (1, xr K 6 0), (3, .int i3)] [] := by
  intro n
  induction n with
  | zero => intro X rc rs hX hQ hR hcr S i3 h; cases h
  | succ n ih =>
    intro X rc rs hX hQ hR hcr S i3 h
    exact sbW_law_L87 hX hQ hR hV hL hxs hN (by omega) (ih (xOK_kA 5 320 hX) (xLaw_kA (rc2 := rc - 5) (rs2 := rs - 320) hQ (by omega) (by omega)) (xRm_kL hQ hR (by omega) (by omega)) (by omega)) h
set_option maxRecDepth 100000 in
theorem sfW_law_J85 {K : xK} {X : xX} {out : xR} {b rc rs : Nat}  {L : Nat} {xs : Nat → Int32} (hX : xOK K X RL cL_law 4) (hQ : xLaw X b rc rs) (hR : xRm X 11 428) (hV : (6, 0) ∈ xvl K) (hL : xsa K 4 = L) (hxs : xxs K = xs) (hN : ∀ o, (33, o) ∉ xvl K) (hcr : 1000 ≤ rc ∧ 64000 ≤ rs)  {S : xSt}  (h : fW_law_J85  L xs  S  = some out) : xG K X S 85 [(0, xrs K 3), (1, xr K 6 0)] [] := by
  unfold fW_law_J85 at h
  refine g_iconst (v := (0 : Int32)) hX dL_law_85 (by decide) ?_
  refine g_istore_n (lv2 := [(3, .int (0 : Int32)), (0, xrs K 3), (1, xr K 6 0)]) hX dL_law_86 rfl (by decide) rfl ?_
  exact g_sub [1, 2, 0] (by rfl) (sfW_law_L87 hV hL hxs hN xFL hX hQ hR (show 5 * 100 + 5 ≤ rc ∧ 320 * 100 + 320 ≤ rs by omega) _ _ h)
set_option maxRecDepth 100000 in
theorem sbW_law_L52 {K : xK} {X : xX} {out : xR} {b rc rs : Nat}  {L : Nat} {xs : Nat → Int32} (hX : xOK K X RL cL_law 4) (hQ : xLaw X b rc rs) (hR : xRm X 11 428) (hV : (6, 0) ∈ xvl K) (hL : xsa K 4 = L) (hxs : xxs K = xs) (hN : ∀ o, (33, o) ∉ xvl K) (hcr : 1000 ≤ rc ∧ 64000 ≤ rs)  {k52 : xSt → Int32 → Int32 → Option xR} (hk52 : ∀ (S : xSt) (i2 : Int32) (i3 : Int32), k52 S i2 i3 = some out → xG K X S 52 [(0, xrs K 3), (1, xr K 6 0), (2, .int i2), (3, .int i3)] []) {S : xSt} {i2 : Int32} {i3 : Int32} (h : bW_law_L52  L xs  k52 S i2 i3 = some out) : xG K X S 52 [(0, xrs K 3), (1, xr K 6 0), (2, .int i2), (3, .int i3)] [] := by
  unfold bW_law_L52 at h
  refine g_iload_n hX dL_law_52 rfl 3 rfl ?_
  refine g_bipush (v := (24 : Int32)) hX dL_law_53 (by decide) ?_
  refine g_icmp_ge hX 85 dL_law_55 (by decide) (fun hc => ?_) (fun hc => ?_)
  · have h := xif_t hc h
    exact g_sub [0, 1] (by rfl) (sfW_law_J85 hX hQ hR hV hL hxs hN hcr h)
  · have h := xif_f hc h
    refine g_aload_n hX dL_law_58 rfl 1 rfl ?_
    refine g_aloads_n hX dL_law_59 rfl 0 rfl ?_
    refine g_iconst (v := (3 : Int32)) hX dL_law_60 (by decide) ?_
    refine g_iload_n hX dL_law_61 rfl 3 rfl ?_
    refine g_iadd hX dL_law_62 ?_
    refine g_iload_n hX dL_law_63 rfl 2 rfl ?_
    obtain ⟨S1, r2, hcS1, h⟩ := xbI_inv h
    refine g_callS hX hR (fun l => cW_cell (l := l) hX.vc hL hxs hcS1) xc9_52 rfl ⟨by decide, by decide⟩ rfl rfl (Nat.le_of_ble_eq_true rfl) dL_law_64 ?_
    refine g_iconst (v := (1 : Int32)) hX dL_law_67 (by decide) ?_
    obtain ⟨S3, r4, hcS3, h⟩ := xbI_inv h
    refine g_callV hX hR hV (fun l => c6_add (l := l) hX.vc hV hcS3) xc9_56 rfl ⟨by decide, by decide⟩ rfl rfl (Nat.le_of_ble_eq_true rfl) dL_law_68 ?_
    refine g_iload_n hX dL_law_71 rfl 3 rfl ?_
    refine g_iconst (v := (1 : Int32)) hX dL_law_72 (by decide) ?_
    refine g_iadd hX dL_law_73 ?_
    refine g_icmp_eq hX 79 dL_law_74 (by decide) (fun hc => ?_) (fun hc => ?_)
    · have h := xif_t hc h
      refine g_iinc (v := (i3 + (1 : Int32))) (lv2 := [(3, .int (i3 + (1 : Int32))), (0, xrs K 3), (1, xr K 6 0), (2, .int i2)]) hX dL_law_79 3 rfl rfl (by decide) rfl ?_
      refine g_goto hX 52 dL_law_82 (by decide) ?_
      exact g_sub [1, 2, 3, 0] (by rfl) (hk52 _ _ _ h)
    · have h := xif_f hc h
      refine g_iconst (v := (0 : Int32)) hX dL_law_77 (by decide) ?_
      obtain ⟨hz, h⟩ := xne_inv h
      exact g_lret hX hQ hz dL_law_78
theorem sfW_law_L52 {K : xK} {X : xX} {out : xR} {b rc rs : Nat}  {L : Nat} {xs : Nat → Int32} (hX : xOK K X RL cL_law 4) (hQ : xLaw X b rc rs) (hR : xRm X 11 428) (hV : (6, 0) ∈ xvl K) (hL : xsa K 4 = L) (hxs : xxs K = xs) (hN : ∀ o, (33, o) ∉ xvl K) (hcr : 1000 ≤ rc ∧ 64000 ≤ rs)  : ∀ (n : Nat) (S : xSt) (i2 : Int32) (i3 : Int32) (h : fW_law_L52  L xs  n S i2 i3 = some out), xG K X S 52 [(0, xrs K 3), (1, xr K 6 0), (2, .int i2), (3, .int i3)] [] := by
  intro n
  induction n with
  | zero => intro S i2 i3 h; cases h
  | succ n ih => intro S i2 i3 h; exact sbW_law_L52 hX hQ hR hV hL hxs hN hcr  ih h
set_option maxRecDepth 100000 in
theorem sfW_law_J8 {K : xK} {X : xX} {out : xR} {b rc rs : Nat}  {L : Nat} {xs : Nat → Int32} (hX : xOK K X RL cL_law 4) (hQ : xLaw X b rc rs) (hR : xRm X 11 428) (hV : (6, 0) ∈ xvl K) (hL : xsa K 4 = L) (hxs : xxs K = xs) (hN : ∀ o, (33, o) ∉ xvl K) (hcr : 1000 ≤ rc ∧ 64000 ≤ rs)  {S : xSt}  (h : fW_law_J8  L xs  S  = some out) : xG K X S 8 [(0, xrs K 3), (1, xr K 6 0)] [] := by
  unfold fW_law_J8 at h
  refine g_aload_n hX dL_law_8 rfl 1 rfl ?_
  refine g_iconst (v := (0 : Int32)) hX dL_law_9 (by decide) ?_
  refine g_iconst (v := (4 : Int32)) hX dL_law_10 (by decide) ?_
  refine g_aloads_n hX dL_law_11 rfl 0 rfl ?_
  refine g_iconst (v := (0 : Int32)) hX dL_law_12 (by decide) ?_
  refine g_iconst (v := (3 : Int32)) hX dL_law_13 (by decide) ?_
  obtain ⟨S1, r2, hcS1, h⟩ := xbI_inv h
  refine g_callS hX hR (fun l => cW_cell (l := l) hX.vc hL hxs hcS1) xc9_52 rfl ⟨by decide, by decide⟩ rfl rfl (Nat.le_of_ble_eq_true rfl) dL_law_14 ?_
  refine g_iadd hX dL_law_17 ?_
  obtain ⟨S3, r4, hcS3, h⟩ := xbI_inv h
  refine g_callV hX hR hV (fun l => c6_set (l := l) hX.vc hV hcS3) xc9_62 rfl ⟨by decide, by decide⟩ rfl rfl (Nat.le_of_ble_eq_true rfl) dL_law_18 ?_
  refine g_pop hX dL_law_21 rfl ?_
  refine g_aload_n hX dL_law_22 rfl 1 rfl ?_
  refine g_iconst (v := (1 : Int32)) hX dL_law_23 (by decide) ?_
  refine g_aloads_n hX dL_law_24 rfl 0 rfl ?_
  refine g_iconst (v := (1 : Int32)) hX dL_law_25 (by decide) ?_
  refine g_iconst (v := (3 : Int32)) hX dL_law_26 (by decide) ?_
  obtain ⟨S5, r6, hcS5, h⟩ := xbI_inv h
  refine g_callS hX hR (fun l => cW_cell (l := l) hX.vc hL hxs hcS5) xc9_52 rfl ⟨by decide, by decide⟩ rfl rfl (Nat.le_of_ble_eq_true rfl) dL_law_27 ?_
  obtain ⟨S7, r8, hcS7, h⟩ := xbI_inv h
  refine g_callV hX hR hV (fun l => c6_set (l := l) hX.vc hV hcS7) xc9_62 rfl ⟨by decide, by decide⟩ rfl rfl (Nat.le_of_ble_eq_true rfl) dL_law_30 ?_
  refine g_pop hX dL_law_33 rfl ?_
  refine g_aload_n hX dL_law_34 rfl 1 rfl ?_
  refine g_iconst (v := (2 : Int32)) hX dL_law_35 (by decide) ?_
  refine g_iconst (v := (4 : Int32)) hX dL_law_36 (by decide) ?_
  obtain ⟨S9, r10, hcS9, h⟩ := xbI_inv h
  refine g_callV hX hR hV (fun l => c6_set (l := l) hX.vc hV hcS9) xc9_62 rfl ⟨by decide, by decide⟩ rfl rfl (Nat.le_of_ble_eq_true rfl) dL_law_37 ?_
  refine g_pop hX dL_law_40 rfl ?_
  refine g_iconst (v := (2 : Int32)) hX dL_law_41 (by decide) ?_
  refine g_aloads_n hX dL_law_42 rfl 0 rfl ?_
  refine g_iconst (v := (2 : Int32)) hX dL_law_43 (by decide) ?_
  refine g_iconst (v := (3 : Int32)) hX dL_law_44 (by decide) ?_
  obtain ⟨S11, r12, hcS11, h⟩ := xbI_inv h
  refine g_callS hX hR (fun l => cW_cell (l := l) hX.vc hL hxs hcS11) xc9_52 rfl ⟨by decide, by decide⟩ rfl rfl (Nat.le_of_ble_eq_true rfl) dL_law_45 ?_
  refine g_iadd hX dL_law_48 ?_
  refine g_istore_n (lv2 := [(2, .int ((2 : Int32) + r12)), (0, xrs K 3), (1, xr K 6 0)]) hX dL_law_49 rfl (by decide) rfl ?_
  refine g_iconst (v := (0 : Int32)) hX dL_law_50 (by decide) ?_
  refine g_istore_n (lv2 := [(3, .int (0 : Int32)), (2, .int ((2 : Int32) + r12)), (0, xrs K 3), (1, xr K 6 0)]) hX dL_law_51 rfl (by decide) rfl ?_
  exact g_sub [2, 3, 1, 0] (by rfl) (sfW_law_L52 hX hQ hR hV hL hxs hN hcr _ _ _ _ h)
