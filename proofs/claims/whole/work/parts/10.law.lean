/-! THE CLAIM OUT OF ONE WALK OF THE LAW'S BODY. Your part is whole_start (and what it stands on); all else here is the same for every law, but numbers. -/
def R_law : String := "GrowingBookLaw"
def lw_P (b : Addr) (xs : List Int32) (args : Array Value) (s : State) : Prop := args = #[.ref b] ∧ s.IntsAt b xs ∧ xs.length ≤ 1536 ∧ (Jvm.Cond.and given_1 narrow_1).before args s = true
def lw_Q (_ : Array Value) (s : State) (o : Outcome) (t : State) : Prop := o = .returned (some (.int 1)) ∧ Framed s o t [] 600000 7302250
def lw_Z (below : List Frame) (a : Array Value) (s : State) : State → Prop := fun t => ∃ o, t.status = .running ∧ Ended t below o ∧ lw_Q a s o t
/-- the law's own end, with 1 on the stack, nothing written that was there before, its room as the claim has it -/
theorem lw_ret {p : Program} {l : Launch} {e : Env} {s : State} {m : MethodId} {below : List Frame} {meth : Method} {c : Code} {b : Nat} (hx : p.tables.exec = Jvm.exec) (hb : c.code = code) (hr : meth.sig.returnType = ret) (hlocks : meth.locks = false) {pc : Nat} {H : Heap} {ls : Array Slot} (hdg : decode code pc = .ok (.ireturn, 1)) : W p l e room_1 s m #[Value.ref b] below meth c H [] 600000 7302250 (lw_Z below #[Value.ref b] s) (F0 m pc ls [.int 1]) := by
  intro T hT X
  obtain ⟨fs, hret, hrun, hended, hW, hframe⟩ := X.leave (v := some (.int 1)) (hlocks := hlocks) (fun h => by rw [hr] at h; cases h)
  have hmeth' : T.vm.method? m = some meth := X.method'
  refine ⟨T.setFrames fs, ?_, .returned (some (.int 1)), hrun, hended, rfl, ⟨_, rfl⟩, hW, hframe⟩
  jvm_step X.here [X.here.top, hx, hb, hdg, hmeth', hr, ret, narrow_b1]
  (try refine ⟨rfl, ?_⟩); (try refine ⟨rfl, ?_⟩)
  first | (intro acts; rw [hret _ acts rfl rfl rfl]) | rw [hret _ _ rfl rfl rfl]
  exact Steps.refl _
/-- what holds at the law's entry: the machine, the code, the tables' words (any of lw_tbl by 'hts w (by decide +kernel)'), the script of L ints xs at the cell b, what the Statement gives of the start (any of its parts by flat_of_before) -/
def lw_At (p : Program) (s : State) (m : MethodId) (meth : Method) (c : Code) (b L : Nat) (xs : Nat → Int32) : Prop :=
  p.tables.exec = Jvm.exec ∧ c.code = code ∧ meth.sig.returnType = ret ∧ c.maxLocals = 4 ∧ s.vm.findClass R_law = some m.cls ∧ (∀ w ∈ lw_tbl, w.before #[Value.ref b] s = true) ∧ va_X b L xs s s.heap ∧ b < s.heap.size ∧ meth.locks = false ∧ (Jvm.Cond.and given_1 narrow_1).before #[Value.ref b] s = true
/-! the law: its own rows -/
def xLaw (X : xX) (b L : Nat) (xs : Nat → Int32) : Prop := match X with
  | (p, l, e, R, s, m, args, below, meth, c, ce, sl, Q, A) => R = room_1 ∧ args = #[Value.ref b] ∧ meth.sig.returnType = ret ∧ meth.locks = false ∧ Q = lw_Z below #[Value.ref b] s ∧ ce ≤ 600000 ∧ sl ≤ 7302250 ∧ A = (fun q : Nat => s.heap.size ≤ q) ∧ va_X b L xs s s.heap ∧ b < s.heap.size
section XL
variable {K : xK} {X : xX} {own : String} {cc : ByteArray} {nL : Nat} {S : xSt} {pc : Nat} {lv : List (Nat × Value)} {st : List Value} {b L : Nat} {xs : Nat → Int32}
theorem g_aloadx_n {k : Fin 4} {i x : Nat} (hX : xOK K X own cc nL) (d : decode cc pc = .ok (.aload_n k, 1)) (hi : (k : Nat) = i) (q : Nat) (hl : lv[q]? = some (i, .ref x)) (kk : xG K X S (pc + 1) lv (.ref x :: st)) : xG K X S pc lv st := by
  obtain ⟨p, l, e, R, s, m, args, below, meth, c, ce, sl, Q, A⟩ := X
  obtain ⟨hx, hb, hml, hown, hts, hA, hst, hvc⟩ := hX
  intro H locs ls wd hS hv
  exact lv_aload_n hx hb d hi (lv_at hv q hl) (kk H locs ls wd hS hv)
theorem g_sld {i : Int32} (hX : xOK K X own cc nL) (hL : xLaw X b L xs) (hin : vp_in i L) (d : decode cc pc = .ok (.iaload, 1)) (kk : xG K X S (pc + 1) lv (.int (xs i.toNatClampNeg) :: st)) : xG K X S pc lv (.int i :: .ref b :: st) := by
  obtain ⟨p, l, e, R, s, m, args, below, meth, c, ce, sl, Q, A⟩ := X
  obtain ⟨hx, hb, hml, hown, hts, hA, hst, hvc⟩ := hX
  obtain ⟨l1, l2, l3, l4, l5, l6, l7, rfl, l9, l10⟩ := hL
  intro H locs ls wd hS hv
  exact va_sld hx hb l9 l10 (Nat.not_le.mpr l10) hS hin d (kk H locs ls wd hS hv)
theorem g_slen (hX : xOK K X own cc nL) (hL : xLaw X b L xs) (d : decode cc pc = .ok (.arraylength, 1)) (kk : xG K X S (pc + 1) lv (.int (nI L) :: st)) : xG K X S pc lv (.ref b :: st) := by
  obtain ⟨p, l, e, R, s, m, args, below, meth, c, ce, sl, Q, A⟩ := X
  obtain ⟨hx, hb, hml, hown, hts, hA, hst, hvc⟩ := hX
  obtain ⟨l1, l2, l3, l4, l5, l6, l7, rfl, l9, l10⟩ := hL
  intro H locs ls wd hS hv
  exact va_slen hx hb l9 l10 (Nat.not_le.mpr l10) hS d (kk H locs ls wd hS hv)
theorem g_lret {v : Int32} (hX : xOK K X own code nL) (hL : xLaw X b L xs) (hz : v = 1) (d : decode code pc = .ok (.ireturn, 1)) : xG K X S pc lv [.int v] := by
  obtain ⟨p, l, e, R, s, m, args, below, meth, c, ce, sl, Q, A⟩ := X
  obtain ⟨hx, hb, hml, hown, hts, hA, hst, hvc⟩ := hX
  obtain ⟨rfl, rfl, l3, l4, rfl, l6, l7, rfl, l9, l10⟩ := hL
  intro H locs ls wd hS hv
  subst hz
  refine va_forget (fun q hq => hS.2.2 q hq) ?_
  refine W.widen (k := 600000) (n := 7302250) l6 l7 ?_
  exact lw_ret hx hb l3 l4 d
end XL
def fL_law_J665 (L : Nat) (xs : Nat → Int32) (k18 : xSt → Int32 → Option xR) (S : xSt) (i3 : Int32) : Option xR :=
  k18 S (i3 + (3 : Int32))
def bL_law_L18 (L : Nat) (xs : Nat → Int32)  (k18 : xSt → Int32 → Option xR) (S : xSt) (i3 : Int32) : Option xR :=
  if ((nI L) - (3 : Int32)) < i3 then
    xne ((1 : Int32) = 1) (some (S, some (.int (1 : Int32))))
  else
    xat i3 L fun j1 =>
    if ((xs j1) &&& (31 : Int32)).toInt < 0 ∨ 20 < ((xs j1) &&& (31 : Int32)).toInt then
      fL_law_J665 L xs k18 S i3
    else match (((xs j1) &&& (31 : Int32)).toInt - 0).toNat with
    | 0 =>
      xat (i3 + (1 : Int32)) L fun j2 =>
      xat (i3 + (2 : Int32)) L fun j3 =>
      xbI (f6_set S (xs j2) (xs j3)) fun S4 r5 =>
      xat (i3 + (1 : Int32)) L fun j6 =>
      xat (i3 + (2 : Int32)) L fun j7 =>
      xbI (f7_set S4 (xs j6) (xs j7)) fun S8 r9 =>
      if r5 = r9 then
        fL_law_J665 L xs k18 S8 i3
      else
        xne ((0 : Int32) = 1) (some (S8, some (.int (0 : Int32))))
    | 1 =>
      xat (i3 + (1 : Int32)) L fun j10 =>
      xat (i3 + (2 : Int32)) L fun j11 =>
      xbI (f6_add S (xs j10) (xs j11)) fun S12 r13 =>
      xat (i3 + (1 : Int32)) L fun j14 =>
      xat (i3 + (2 : Int32)) L fun j15 =>
      xbI (f7_add S12 (xs j14) (xs j15)) fun S16 r17 =>
      if r13 = r17 then
        fL_law_J665 L xs k18 S16 i3
      else
        xne ((0 : Int32) = 1) (some (S16, some (.int (0 : Int32))))
    | 2 =>
      xat (i3 + (1 : Int32)) L fun j18 =>
      xbI (f6_cut S (xs j18)) fun S19 r20 =>
      xat (i3 + (1 : Int32)) L fun j21 =>
      xbI (f7_cut S19 (xs j21)) fun S22 r23 =>
      if r20 = r23 then
        fL_law_J665 L xs k18 S22 i3
      else
        xne ((0 : Int32) = 1) (some (S22, some (.int (0 : Int32))))
    | 3 =>
      xat (i3 + (1 : Int32)) L fun j24 =>
      xat (i3 + (2 : Int32)) L fun j25 =>
      xbI (f6_spoil S (xs j24) (xs j25)) fun S26 r27 =>
      xat (i3 + (1 : Int32)) L fun j28 =>
      xat (i3 + (2 : Int32)) L fun j29 =>
      xbI (f7_spoil S26 (xs j28) (xs j29)) fun S30 r31 =>
      if r27 = r31 then
        fL_law_J665 L xs k18 S30 i3
      else
        xne ((0 : Int32) = 1) (some (S30, some (.int (0 : Int32))))
    | 4 =>
      xat (i3 + (1 : Int32)) L fun j32 =>
      xat (i3 + (2 : Int32)) L fun j33 =>
      xbI (f6_put S ((((xs j32)).toInt64 <<< ((32 : Int32).toInt64 &&& 63)) ||| (((xs j33)).toInt64 &&& (4294967295 : Int64)))) fun S34 r35 =>
      xat (i3 + (1 : Int32)) L fun j36 =>
      xat (i3 + (2 : Int32)) L fun j37 =>
      xbI (f7_put S34 ((((xs j36)).toInt64 <<< ((32 : Int32).toInt64 &&& 63)) ||| (((xs j37)).toInt64 &&& (4294967295 : Int64)))) fun S38 r39 =>
      if r35 = r39 then
        fL_law_J665 L xs k18 S38 i3
      else
        xne ((0 : Int32) = 1) (some (S38, some (.int (0 : Int32))))
    | 5 =>
      xbI (f6_wipe S) fun S40 r41 =>
      xbI (f7_wipe S40) fun S42 r43 =>
      if r41 = r43 then
        fL_law_J665 L xs k18 S42 i3
      else
        xne ((0 : Int32) = 1) (some (S42, some (.int (0 : Int32))))
    | 6 =>
      xbI (f6_fault S) fun S44 r45 =>
      xbI (f7_fault S44) fun S46 r47 =>
      if r45 = r47 then
        fL_law_J665 L xs k18 S46 i3
      else
        xne ((0 : Int32) = 1) (some (S46, some (.int (0 : Int32))))
    | 7 =>
      xbI (f6_load S) fun S48 r49 =>
      xbI (f7_load S48) fun S50 r51 =>
      if r49 = r51 then
        fL_law_J665 L xs k18 S50 i3
      else
        xne ((0 : Int32) = 1) (some (S50, some (.int (0 : Int32))))
    | 8 =>
      xat (i3 + (1 : Int32)) L fun j52 =>
      xbI (f6_sign S (xs j52)) fun S53 r54 =>
      xat (i3 + (1 : Int32)) L fun j55 =>
      xbI (f7_sign S53 (xs j55)) fun S56 r57 =>
      if r54 = r57 then
        fL_law_J665 L xs k18 S56 i3
      else
        xne ((0 : Int32) = 1) (some (S56, some (.int (0 : Int32))))
    | 9 =>
      xat (i3 + (1 : Int32)) L fun j58 =>
      xat (i3 + (2 : Int32)) L fun j59 =>
      xbI (f6_ofCode S (xs j58) (xs j59)) fun S60 r61 =>
      xat (i3 + (1 : Int32)) L fun j62 =>
      xat (i3 + (2 : Int32)) L fun j63 =>
      xbI (f7_ofCode S60 (xs j62) (xs j63)) fun S64 r65 =>
      if r61 = r65 then
        fL_law_J665 L xs k18 S64 i3
      else
        xne ((0 : Int32) = 1) (some (S64, some (.int (0 : Int32))))
    | 10 =>
      xat (i3 + (1 : Int32)) L fun j66 =>
      xbI (f6_count S (xs j66)) fun S67 r68 =>
      xat (i3 + (1 : Int32)) L fun j69 =>
      xbI (f7_count S67 (xs j69)) fun S70 r71 =>
      if r68 = r71 then
        fL_law_J665 L xs k18 S70 i3
      else
        xne ((0 : Int32) = 1) (some (S70, some (.int (0 : Int32))))
    | 11 =>
      xat (i3 + (1 : Int32)) L fun j72 =>
      xat (i3 + (2 : Int32)) L fun j73 =>
      xbI (f6_entry S (xs j72) (xs j73)) fun S74 r75 =>
      xat (i3 + (1 : Int32)) L fun j76 =>
      xat (i3 + (2 : Int32)) L fun j77 =>
      xbI (f7_entry S74 (xs j76) (xs j77)) fun S78 r79 =>
      if r75 = r79 then
        fL_law_J665 L xs k18 S78 i3
      else
        xne ((0 : Int32) = 1) (some (S78, some (.int (0 : Int32))))
    | 12 =>
      xat (i3 + (1 : Int32)) L fun j80 =>
      xbI (f6_reading S (xs j80)) fun S81 r82 =>
      xat (i3 + (1 : Int32)) L fun j83 =>
      xbI (f7_reading S81 (xs j83)) fun S84 r85 =>
      if r82 = r85 then
        fL_law_J665 L xs k18 S84 i3
      else
        xne ((0 : Int32) = 1) (some (S84, some (.int (0 : Int32))))
    | 13 =>
      xat (i3 + (1 : Int32)) L fun j86 =>
      xbI (f6_read S (xs j86)) fun S87 r88 =>
      xat (i3 + (1 : Int32)) L fun j89 =>
      xbI (f7_read S87 (xs j89)) fun S90 r91 =>
      if r88 = r91 then
        fL_law_J665 L xs k18 S90 i3
      else
        xne ((0 : Int32) = 1) (some (S90, some (.int (0 : Int32))))
    | 14 =>
      xat (i3 + (1 : Int32)) L fun j92 =>
      xat (i3 + (2 : Int32)) L fun j93 =>
      xbI (f6_bitsWith S (xs j92) (xs j93)) fun S94 r95 =>
      xat (i3 + (1 : Int32)) L fun j96 =>
      xat (i3 + (2 : Int32)) L fun j97 =>
      xbI (f7_bitsWith S94 (xs j96) (xs j97)) fun S98 r99 =>
      if r95 = r99 then
        fL_law_J665 L xs k18 S98 i3
      else
        xne ((0 : Int32) = 1) (some (S98, some (.int (0 : Int32))))
    | 15 =>
      xat (i3 + (1 : Int32)) L fun j100 =>
      xbI (f6_best S (xs j100)) fun S101 r102 =>
      xat (i3 + (1 : Int32)) L fun j103 =>
      xbI (f7_best S101 (xs j103)) fun S104 r105 =>
      if r102 = r105 then
        fL_law_J665 L xs k18 S104 i3
      else
        xne ((0 : Int32) = 1) (some (S104, some (.int (0 : Int32))))
    | 16 =>
      xat (i3 + (1 : Int32)) L fun j106 =>
      xbI (f6_tenderest S (xs j106)) fun S107 r108 =>
      xat (i3 + (1 : Int32)) L fun j109 =>
      xbI (f7_tenderest S107 (xs j109)) fun S110 r111 =>
      if r108 = r111 then
        fL_law_J665 L xs k18 S110 i3
      else
        xne ((0 : Int32) = 1) (some (S110, some (.int (0 : Int32))))
    | 17 =>
      xat (i3 + (1 : Int32)) L fun j112 =>
      xbI (f6_cheapest S (xs j112)) fun S113 r114 =>
      xat (i3 + (1 : Int32)) L fun j115 =>
      xbI (f7_cheapest S113 (xs j115)) fun S116 r117 =>
      if r114 = r117 then
        fL_law_J665 L xs k18 S116 i3
      else
        xne ((0 : Int32) = 1) (some (S116, some (.int (0 : Int32))))
    | 18 =>
      xbI (f6_undo S) fun S118 r119 =>
      xbI (f7_undo S118) fun S120 r121 =>
      if r119 = r121 then
        fL_law_J665 L xs k18 S120 i3
      else
        xne ((0 : Int32) = 1) (some (S120, some (.int (0 : Int32))))
    | 19 =>
      xat (i3 + (1 : Int32)) L fun j122 =>
      xbI (f6_save S (xs j122)) fun S123 r124 =>
      xat (i3 + (1 : Int32)) L fun j125 =>
      xbI (f7_save S123 (xs j125)) fun S126 r127 =>
      if r124 = r127 then
        fL_law_J665 L xs k18 S126 i3
      else
        xne ((0 : Int32) = 1) (some (S126, some (.int (0 : Int32))))
    | 20 =>
      xat (i3 + (1 : Int32)) L fun j128 =>
      xbI (f6_restore S (xs j128)) fun S129 r130 =>
      xat (i3 + (1 : Int32)) L fun j131 =>
      xbI (f7_restore S129 (xs j131)) fun S132 r133 =>
      if r130 = r133 then
        fL_law_J665 L xs k18 S132 i3
      else
        xne ((0 : Int32) = 1) (some (S132, some (.int (0 : Int32))))
    | _ => none
def fL_law_L18 (L : Nat) (xs : Nat → Int32)  : Nat → xSt → Int32 → Option xR
  | 0 => fun _ _ => none
  | n + 1 => bL_law_L18 L xs  (fL_law_L18 L xs  n)
set_option maxRecDepth 100000 in
theorem sfL_law_J665 {K : xK} {X : xX} {out : xR} {b L : Nat} {xs : Nat → Int32} (hX : xOK K X RL cL_law 4) (hL : xLaw X b L xs) (hR : xRm X 9 336) (hV : (6, 0) ∈ xvl K) (hV1 : (7, 0) ∈ xvl K) {k18 : xSt → Int32 → Option xR} (hk18 : ∀ (S : xSt) (i3 : Int32), k18 S i3 = some out → xG K X S 18 [(0, .ref b), (1, xr K 6 0), (2, xr K 7 0), (3, .int i3)] []) {S : xSt} {i3 : Int32} (h : fL_law_J665 L xs k18 S i3 = some out) : xG K X S 665 [(0, .ref b), (1, xr K 6 0), (2, xr K 7 0), (3, .int i3)] [] := by
  unfold fL_law_J665 at h
  refine g_iinc (v := (i3 + (3 : Int32))) (lv2 := [(3, .int (i3 + (3 : Int32))), (0, .ref b), (1, xr K 6 0), (2, xr K 7 0)]) hX dL_law_665 3 rfl rfl (by decide) rfl ?_
  refine g_goto hX 18 dL_law_668 (by decide) ?_
  exact g_sub [1, 2, 3, 0] (by rfl) (hk18 _ _ h)
set_option maxRecDepth 100000 in
theorem sbL_law_L18 {K : xK} {X : xX} {out : xR} {b L : Nat} {xs : Nat → Int32} (hX : xOK K X RL cL_law 4) (hL : xLaw X b L xs) (hR : xRm X 9 336) (hV : (6, 0) ∈ xvl K) (hV1 : (7, 0) ∈ xvl K)  {k18 : xSt → Int32 → Option xR} (hk18 : ∀ (S : xSt) (i3 : Int32), k18 S i3 = some out → xG K X S 18 [(0, .ref b), (1, xr K 6 0), (2, xr K 7 0), (3, .int i3)] []) {S : xSt} {i3 : Int32} (h : bL_law_L18 L xs  k18 S i3 = some out) : xG K X S 18 [(0, .ref b), (1, xr K 6 0), (2, xr K 7 0), (3, .int i3)] [] := by
  unfold bL_law_L18 at h
  refine g_iload_n hX dL_law_18 rfl 3 rfl ?_
  refine g_aloadx_n hX dL_law_19 rfl 0 rfl ?_
  refine g_slen hX hL dL_law_20 ?_
  refine g_iconst (v := (3 : Int32)) hX dL_law_21 (by decide) ?_
  refine g_isub hX dL_law_22 ?_
  refine g_icmp_gt hX 671 dL_law_23 (by decide) (fun hc => ?_) (fun hc => ?_)
  · have h := xif_t hc h
    refine g_iconst (v := (1 : Int32)) hX dL_law_671 (by decide) ?_
    obtain ⟨hz, h⟩ := xne_inv h
    exact g_lret hX hL hz dL_law_672
  · have h := xif_f hc h
    refine g_aloadx_n hX dL_law_26 rfl 0 rfl ?_
    refine g_iload_n hX dL_law_27 rfl 3 rfl ?_
    obtain ⟨hbj1, h⟩ := xat_inv h
    refine g_sld hX hL hbj1 dL_law_28 ?_
    refine g_bipush (v := (31 : Int32)) hX dL_law_29 (by decide) ?_
    refine g_iand hX dL_law_31 ?_
    by_cases hc : ((xs (i3).toNatClampNeg) &&& (31 : Int32)).toInt < 0 ∨ 20 < ((xs (i3).toNatClampNeg) &&& (31 : Int32)).toInt
    · have h := xif_t hc h
      refine g_tsOut hX 665 dL_law_32 hc (by decide) ?_
      exact sfL_law_J665 hX hL hR hV hV1 hk18 h
    have h := xif_f hc h
    generalize hn : (((xs (i3).toNatClampNeg) &&& (31 : Int32)).toInt - 0).toNat = n at h
    match n, hn, h with
    | 0, hn, h =>
      refine g_tsIn hX 132 dL_law_32 hc 0 hn (by rfl) (by decide) ?_
      refine g_aload_n hX dL_law_132 rfl 1 rfl ?_
      refine g_aloadx_n hX dL_law_133 rfl 0 rfl ?_
      refine g_iload_n hX dL_law_134 rfl 3 rfl ?_
      refine g_iconst (v := (1 : Int32)) hX dL_law_135 (by decide) ?_
      refine g_iadd hX dL_law_136 ?_
      obtain ⟨hbj2, h⟩ := xat_inv h
      refine g_sld hX hL hbj2 dL_law_137 ?_
      refine g_aloadx_n hX dL_law_138 rfl 0 rfl ?_
      refine g_iload_n hX dL_law_139 rfl 3 rfl ?_
      refine g_iconst (v := (2 : Int32)) hX dL_law_140 (by decide) ?_
      refine g_iadd hX dL_law_141 ?_
      obtain ⟨hbj3, h⟩ := xat_inv h
      refine g_sld hX hL hbj3 dL_law_142 ?_
      obtain ⟨S4, r5, hcS4, h⟩ := xbI_inv h
      refine g_callV hX hR hV (fun l => c6_set (l := l) hX.vc hV hcS4) xc9_13 rfl ⟨by decide, by decide⟩ rfl rfl (Nat.le_of_ble_eq_true rfl) dL_law_143 ?_
      refine g_aload_n hX dL_law_146 rfl 2 rfl ?_
      refine g_aloadx_n hX dL_law_147 rfl 0 rfl ?_
      refine g_iload_n hX dL_law_148 rfl 3 rfl ?_
      refine g_iconst (v := (1 : Int32)) hX dL_law_149 (by decide) ?_
      refine g_iadd hX dL_law_150 ?_
      obtain ⟨hbj6, h⟩ := xat_inv h
      refine g_sld hX hL hbj6 dL_law_151 ?_
      refine g_aloadx_n hX dL_law_152 rfl 0 rfl ?_
      refine g_iload_n hX dL_law_153 rfl 3 rfl ?_
      refine g_iconst (v := (2 : Int32)) hX dL_law_154 (by decide) ?_
      refine g_iadd hX dL_law_155 ?_
      obtain ⟨hbj7, h⟩ := xat_inv h
      refine g_sld hX hL hbj7 dL_law_156 ?_
      obtain ⟨S8, r9, hcS8, h⟩ := xbI_inv h
      refine g_callV hX hR hV1 (fun l => c7_set (l := l) hX.vc hV1 hcS8) xc9_17 rfl ⟨by decide, by decide⟩ rfl rfl (Nat.le_of_ble_eq_true rfl) dL_law_157 ?_
      refine g_icmp_eq hX 665 dL_law_160 (by decide) (fun hc => ?_) (fun hc => ?_)
      · have h := xif_t hc h
        exact sfL_law_J665 hX hL hR hV hV1 hk18 h
      · have h := xif_f hc h
        refine g_iconst (v := (0 : Int32)) hX dL_law_163 (by decide) ?_
        obtain ⟨hz, h⟩ := xne_inv h
        exact g_lret hX hL hz dL_law_164
    | 1, hn, h =>
      refine g_tsIn hX 165 dL_law_32 hc 1 hn (by rfl) (by decide) ?_
      refine g_aload_n hX dL_law_165 rfl 1 rfl ?_
      refine g_aloadx_n hX dL_law_166 rfl 0 rfl ?_
      refine g_iload_n hX dL_law_167 rfl 3 rfl ?_
      refine g_iconst (v := (1 : Int32)) hX dL_law_168 (by decide) ?_
      refine g_iadd hX dL_law_169 ?_
      obtain ⟨hbj10, h⟩ := xat_inv h
      refine g_sld hX hL hbj10 dL_law_170 ?_
      refine g_aloadx_n hX dL_law_171 rfl 0 rfl ?_
      refine g_iload_n hX dL_law_172 rfl 3 rfl ?_
      refine g_iconst (v := (2 : Int32)) hX dL_law_173 (by decide) ?_
      refine g_iadd hX dL_law_174 ?_
      obtain ⟨hbj11, h⟩ := xat_inv h
      refine g_sld hX hL hbj11 dL_law_175 ?_
      obtain ⟨S12, r13, hcS12, h⟩ := xbI_inv h
      refine g_callV hX hR hV (fun l => c6_add (l := l) hX.vc hV hcS12) xc9_18 rfl ⟨by decide, by decide⟩ rfl rfl (Nat.le_of_ble_eq_true rfl) dL_law_176 ?_
      refine g_aload_n hX dL_law_179 rfl 2 rfl ?_
      refine g_aloadx_n hX dL_law_180 rfl 0 rfl ?_
      refine g_iload_n hX dL_law_181 rfl 3 rfl ?_
      refine g_iconst (v := (1 : Int32)) hX dL_law_182 (by decide) ?_
      refine g_iadd hX dL_law_183 ?_
      obtain ⟨hbj14, h⟩ := xat_inv h
      refine g_sld hX hL hbj14 dL_law_184 ?_
      refine g_aloadx_n hX dL_law_185 rfl 0 rfl ?_
      refine g_iload_n hX dL_law_186 rfl 3 rfl ?_
      refine g_iconst (v := (2 : Int32)) hX dL_law_187 (by decide) ?_
      refine g_iadd hX dL_law_188 ?_
      obtain ⟨hbj15, h⟩ := xat_inv h
      refine g_sld hX hL hbj15 dL_law_189 ?_
      obtain ⟨S16, r17, hcS16, h⟩ := xbI_inv h
      refine g_callV hX hR hV1 (fun l => c7_add (l := l) hX.vc hV1 hcS16) xc9_21 rfl ⟨by decide, by decide⟩ rfl rfl (Nat.le_of_ble_eq_true rfl) dL_law_190 ?_
      refine g_icmp_eq hX 665 dL_law_193 (by decide) (fun hc => ?_) (fun hc => ?_)
      · have h := xif_t hc h
        exact sfL_law_J665 hX hL hR hV hV1 hk18 h
      · have h := xif_f hc h
        refine g_iconst (v := (0 : Int32)) hX dL_law_196 (by decide) ?_
        obtain ⟨hz, h⟩ := xne_inv h
        exact g_lret hX hL hz dL_law_197
    | 2, hn, h =>
      refine g_tsIn hX 198 dL_law_32 hc 2 hn (by rfl) (by decide) ?_
      refine g_aload_n hX dL_law_198 rfl 1 rfl ?_
      refine g_aloadx_n hX dL_law_199 rfl 0 rfl ?_
      refine g_iload_n hX dL_law_200 rfl 3 rfl ?_
      refine g_iconst (v := (1 : Int32)) hX dL_law_201 (by decide) ?_
      refine g_iadd hX dL_law_202 ?_
      obtain ⟨hbj18, h⟩ := xat_inv h
      refine g_sld hX hL hbj18 dL_law_203 ?_
      obtain ⟨S19, r20, hcS19, h⟩ := xbI_inv h
      refine g_callV hX hR hV (fun l => c6_cut (l := l) hX.vc hV hcS19) xc9_22 rfl ⟨by decide, by decide⟩ rfl rfl (Nat.le_of_ble_eq_true rfl) dL_law_204 ?_
      refine g_aload_n hX dL_law_207 rfl 2 rfl ?_
      refine g_aloadx_n hX dL_law_208 rfl 0 rfl ?_
      refine g_iload_n hX dL_law_209 rfl 3 rfl ?_
      refine g_iconst (v := (1 : Int32)) hX dL_law_210 (by decide) ?_
      refine g_iadd hX dL_law_211 ?_
      obtain ⟨hbj21, h⟩ := xat_inv h
      refine g_sld hX hL hbj21 dL_law_212 ?_
      obtain ⟨S22, r23, hcS22, h⟩ := xbI_inv h
      refine g_callV hX hR hV1 (fun l => c7_cut (l := l) hX.vc hV1 hcS22) xc9_26 rfl ⟨by decide, by decide⟩ rfl rfl (Nat.le_of_ble_eq_true rfl) dL_law_213 ?_
      refine g_icmp_eq hX 665 dL_law_216 (by decide) (fun hc => ?_) (fun hc => ?_)
      · have h := xif_t hc h
        exact sfL_law_J665 hX hL hR hV hV1 hk18 h
      · have h := xif_f hc h
        refine g_iconst (v := (0 : Int32)) hX dL_law_219 (by decide) ?_
        obtain ⟨hz, h⟩ := xne_inv h
        exact g_lret hX hL hz dL_law_220
    | 3, hn, h =>
      refine g_tsIn hX 221 dL_law_32 hc 3 hn (by rfl) (by decide) ?_
      refine g_aload_n hX dL_law_221 rfl 1 rfl ?_
      refine g_aloadx_n hX dL_law_222 rfl 0 rfl ?_
      refine g_iload_n hX dL_law_223 rfl 3 rfl ?_
      refine g_iconst (v := (1 : Int32)) hX dL_law_224 (by decide) ?_
      refine g_iadd hX dL_law_225 ?_
      obtain ⟨hbj24, h⟩ := xat_inv h
      refine g_sld hX hL hbj24 dL_law_226 ?_
      refine g_aloadx_n hX dL_law_227 rfl 0 rfl ?_
      refine g_iload_n hX dL_law_228 rfl 3 rfl ?_
      refine g_iconst (v := (2 : Int32)) hX dL_law_229 (by decide) ?_
      refine g_iadd hX dL_law_230 ?_
      obtain ⟨hbj25, h⟩ := xat_inv h
      refine g_sld hX hL hbj25 dL_law_231 ?_
      obtain ⟨S26, r27, hcS26, h⟩ := xbI_inv h
      refine g_callV hX hR hV (fun l => c6_spoil (l := l) hX.vc hV hcS26) xc9_27 rfl ⟨by decide, by decide⟩ rfl rfl (Nat.le_of_ble_eq_true rfl) dL_law_232 ?_
      refine g_aload_n hX dL_law_235 rfl 2 rfl ?_
      refine g_aloadx_n hX dL_law_236 rfl 0 rfl ?_
      refine g_iload_n hX dL_law_237 rfl 3 rfl ?_
      refine g_iconst (v := (1 : Int32)) hX dL_law_238 (by decide) ?_
      refine g_iadd hX dL_law_239 ?_
      obtain ⟨hbj28, h⟩ := xat_inv h
      refine g_sld hX hL hbj28 dL_law_240 ?_
      refine g_aloadx_n hX dL_law_241 rfl 0 rfl ?_
      refine g_iload_n hX dL_law_242 rfl 3 rfl ?_
      refine g_iconst (v := (2 : Int32)) hX dL_law_243 (by decide) ?_
      refine g_iadd hX dL_law_244 ?_
      obtain ⟨hbj29, h⟩ := xat_inv h
      refine g_sld hX hL hbj29 dL_law_245 ?_
      obtain ⟨S30, r31, hcS30, h⟩ := xbI_inv h
      refine g_callV hX hR hV1 (fun l => c7_spoil (l := l) hX.vc hV1 hcS30) xc9_30 rfl ⟨by decide, by decide⟩ rfl rfl (Nat.le_of_ble_eq_true rfl) dL_law_246 ?_
      refine g_icmp_eq hX 665 dL_law_249 (by decide) (fun hc => ?_) (fun hc => ?_)
      · have h := xif_t hc h
        exact sfL_law_J665 hX hL hR hV hV1 hk18 h
      · have h := xif_f hc h
        refine g_iconst (v := (0 : Int32)) hX dL_law_252 (by decide) ?_
        obtain ⟨hz, h⟩ := xne_inv h
        exact g_lret hX hL hz dL_law_253
    | 4, hn, h =>
      refine g_tsIn hX 254 dL_law_32 hc 4 hn (by rfl) (by decide) ?_
      refine g_aload_n hX dL_law_254 rfl 1 rfl ?_
      refine g_aloadx_n hX dL_law_255 rfl 0 rfl ?_
      refine g_iload_n hX dL_law_256 rfl 3 rfl ?_
      refine g_iconst (v := (1 : Int32)) hX dL_law_257 (by decide) ?_
      refine g_iadd hX dL_law_258 ?_
      obtain ⟨hbj32, h⟩ := xat_inv h
      refine g_sld hX hL hbj32 dL_law_259 ?_
      refine g_i2l hX dL_law_260 ?_
      refine g_bipush (v := (32 : Int32)) hX dL_law_261 (by decide) ?_
      refine g_lshl hX dL_law_263 ?_
      refine g_aloadx_n hX dL_law_264 rfl 0 rfl ?_
      refine g_iload_n hX dL_law_265 rfl 3 rfl ?_
      refine g_iconst (v := (2 : Int32)) hX dL_law_266 (by decide) ?_
      refine g_iadd hX dL_law_267 ?_
      obtain ⟨hbj33, h⟩ := xat_inv h
      refine g_sld hX hL hbj33 dL_law_268 ?_
      refine g_i2l hX dL_law_269 ?_
      refine g_ldc2 (v := (4294967295 : Int64)) hX dL_law_270 xk9_31 ?_
      refine g_land hX dL_law_273 ?_
      refine g_lor hX dL_law_274 ?_
      obtain ⟨S34, r35, hcS34, h⟩ := xbI_inv h
      refine g_callV hX hR hV (fun l => c6_put (l := l) hX.vc hV hcS34) xc9_33 rfl ⟨by decide, by decide⟩ rfl rfl (Nat.le_of_ble_eq_true rfl) dL_law_275 ?_
      refine g_aload_n hX dL_law_278 rfl 2 rfl ?_
      refine g_aloadx_n hX dL_law_279 rfl 0 rfl ?_
      refine g_iload_n hX dL_law_280 rfl 3 rfl ?_
      refine g_iconst (v := (1 : Int32)) hX dL_law_281 (by decide) ?_
      refine g_iadd hX dL_law_282 ?_
      obtain ⟨hbj36, h⟩ := xat_inv h
      refine g_sld hX hL hbj36 dL_law_283 ?_
      refine g_i2l hX dL_law_284 ?_
      refine g_bipush (v := (32 : Int32)) hX dL_law_285 (by decide) ?_
      refine g_lshl hX dL_law_287 ?_
      refine g_aloadx_n hX dL_law_288 rfl 0 rfl ?_
      refine g_iload_n hX dL_law_289 rfl 3 rfl ?_
      refine g_iconst (v := (2 : Int32)) hX dL_law_290 (by decide) ?_
      refine g_iadd hX dL_law_291 ?_
      obtain ⟨hbj37, h⟩ := xat_inv h
      refine g_sld hX hL hbj37 dL_law_292 ?_
      refine g_i2l hX dL_law_293 ?_
      refine g_ldc2 (v := (4294967295 : Int64)) hX dL_law_294 xk9_31 ?_
      refine g_land hX dL_law_297 ?_
      refine g_lor hX dL_law_298 ?_
      obtain ⟨S38, r39, hcS38, h⟩ := xbI_inv h
      refine g_callV hX hR hV1 (fun l => c7_put (l := l) hX.vc hV1 hcS38) xc9_37 rfl ⟨by decide, by decide⟩ rfl rfl (Nat.le_of_ble_eq_true rfl) dL_law_299 ?_
      refine g_icmp_eq hX 665 dL_law_302 (by decide) (fun hc => ?_) (fun hc => ?_)
      · have h := xif_t hc h
        exact sfL_law_J665 hX hL hR hV hV1 hk18 h
      · have h := xif_f hc h
        refine g_iconst (v := (0 : Int32)) hX dL_law_305 (by decide) ?_
        obtain ⟨hz, h⟩ := xne_inv h
        exact g_lret hX hL hz dL_law_306
    | 5, hn, h =>
      refine g_tsIn hX 307 dL_law_32 hc 5 hn (by rfl) (by decide) ?_
      refine g_aload_n hX dL_law_307 rfl 1 rfl ?_
      obtain ⟨S40, r41, hcS40, h⟩ := xbI_inv h
      refine g_callV hX hR hV (fun l => c6_wipe (l := l) hX.vc hV hcS40) xc9_38 rfl ⟨by decide, by decide⟩ rfl rfl (Nat.le_of_ble_eq_true rfl) dL_law_308 ?_
      refine g_aload_n hX dL_law_311 rfl 2 rfl ?_
      obtain ⟨S42, r43, hcS42, h⟩ := xbI_inv h
      refine g_callV hX hR hV1 (fun l => c7_wipe (l := l) hX.vc hV1 hcS42) xc9_42 rfl ⟨by decide, by decide⟩ rfl rfl (Nat.le_of_ble_eq_true rfl) dL_law_312 ?_
      refine g_icmp_eq hX 665 dL_law_315 (by decide) (fun hc => ?_) (fun hc => ?_)
      · have h := xif_t hc h
        exact sfL_law_J665 hX hL hR hV hV1 hk18 h
      · have h := xif_f hc h
        refine g_iconst (v := (0 : Int32)) hX dL_law_318 (by decide) ?_
        obtain ⟨hz, h⟩ := xne_inv h
        exact g_lret hX hL hz dL_law_319
    | 6, hn, h =>
      refine g_tsIn hX 320 dL_law_32 hc 6 hn (by rfl) (by decide) ?_
      refine g_aload_n hX dL_law_320 rfl 1 rfl ?_
      obtain ⟨S44, r45, hcS44, h⟩ := xbI_inv h
      refine g_callV hX hR hV (fun l => c6_fault (l := l) hX.vc hV hcS44) xc9_43 rfl ⟨by decide, by decide⟩ rfl rfl (Nat.le_of_ble_eq_true rfl) dL_law_321 ?_
      refine g_aload_n hX dL_law_324 rfl 2 rfl ?_
      obtain ⟨S46, r47, hcS46, h⟩ := xbI_inv h
      refine g_callV hX hR hV1 (fun l => c7_fault (l := l) hX.vc hV1 hcS46) xc9_46 rfl ⟨by decide, by decide⟩ rfl rfl (Nat.le_of_ble_eq_true rfl) dL_law_325 ?_
      refine g_icmp_eq hX 665 dL_law_328 (by decide) (fun hc => ?_) (fun hc => ?_)
      · have h := xif_t hc h
        exact sfL_law_J665 hX hL hR hV hV1 hk18 h
      · have h := xif_f hc h
        refine g_iconst (v := (0 : Int32)) hX dL_law_331 (by decide) ?_
        obtain ⟨hz, h⟩ := xne_inv h
        exact g_lret hX hL hz dL_law_332
    | 7, hn, h =>
      refine g_tsIn hX 333 dL_law_32 hc 7 hn (by rfl) (by decide) ?_
      refine g_aload_n hX dL_law_333 rfl 1 rfl ?_
      obtain ⟨S48, r49, hcS48, h⟩ := xbI_inv h
      refine g_callV hX hR hV (fun l => c6_load (l := l) hX.vc hV hcS48) xc9_47 rfl ⟨by decide, by decide⟩ rfl rfl (Nat.le_of_ble_eq_true rfl) dL_law_334 ?_
      refine g_aload_n hX dL_law_337 rfl 2 rfl ?_
      obtain ⟨S50, r51, hcS50, h⟩ := xbI_inv h
      refine g_callV hX hR hV1 (fun l => c7_load (l := l) hX.vc hV1 hcS50) xc9_50 rfl ⟨by decide, by decide⟩ rfl rfl (Nat.le_of_ble_eq_true rfl) dL_law_338 ?_
      refine g_icmp_eq hX 665 dL_law_341 (by decide) (fun hc => ?_) (fun hc => ?_)
      · have h := xif_t hc h
        exact sfL_law_J665 hX hL hR hV hV1 hk18 h
      · have h := xif_f hc h
        refine g_iconst (v := (0 : Int32)) hX dL_law_344 (by decide) ?_
        obtain ⟨hz, h⟩ := xne_inv h
        exact g_lret hX hL hz dL_law_345
    | 8, hn, h =>
      refine g_tsIn hX 346 dL_law_32 hc 8 hn (by rfl) (by decide) ?_
      refine g_aload_n hX dL_law_346 rfl 1 rfl ?_
      refine g_aloadx_n hX dL_law_347 rfl 0 rfl ?_
      refine g_iload_n hX dL_law_348 rfl 3 rfl ?_
      refine g_iconst (v := (1 : Int32)) hX dL_law_349 (by decide) ?_
      refine g_iadd hX dL_law_350 ?_
      obtain ⟨hbj52, h⟩ := xat_inv h
      refine g_sld hX hL hbj52 dL_law_351 ?_
      obtain ⟨S53, r54, hcS53, h⟩ := xbI_inv h
      refine g_callV hX hR hV (fun l => c6_sign (l := l) hX.vc hV hcS53) xc9_51 rfl ⟨by decide, by decide⟩ rfl rfl (Nat.le_of_ble_eq_true rfl) dL_law_352 ?_
      refine g_aload_n hX dL_law_355 rfl 2 rfl ?_
      refine g_aloadx_n hX dL_law_356 rfl 0 rfl ?_
      refine g_iload_n hX dL_law_357 rfl 3 rfl ?_
      refine g_iconst (v := (1 : Int32)) hX dL_law_358 (by decide) ?_
      refine g_iadd hX dL_law_359 ?_
      obtain ⟨hbj55, h⟩ := xat_inv h
      refine g_sld hX hL hbj55 dL_law_360 ?_
      obtain ⟨S56, r57, hcS56, h⟩ := xbI_inv h
      refine g_callV hX hR hV1 (fun l => c7_sign (l := l) hX.vc hV1 hcS56) xc9_54 rfl ⟨by decide, by decide⟩ rfl rfl (Nat.le_of_ble_eq_true rfl) dL_law_361 ?_
      refine g_icmp_eq hX 665 dL_law_364 (by decide) (fun hc => ?_) (fun hc => ?_)
      · have h := xif_t hc h
        exact sfL_law_J665 hX hL hR hV hV1 hk18 h
      · have h := xif_f hc h
        refine g_iconst (v := (0 : Int32)) hX dL_law_367 (by decide) ?_
        obtain ⟨hz, h⟩ := xne_inv h
        exact g_lret hX hL hz dL_law_368
    | 9, hn, h =>
      refine g_tsIn hX 369 dL_law_32 hc 9 hn (by rfl) (by decide) ?_
      refine g_aload_n hX dL_law_369 rfl 1 rfl ?_
      refine g_aloadx_n hX dL_law_370 rfl 0 rfl ?_
      refine g_iload_n hX dL_law_371 rfl 3 rfl ?_
      refine g_iconst (v := (1 : Int32)) hX dL_law_372 (by decide) ?_
      refine g_iadd hX dL_law_373 ?_
      obtain ⟨hbj58, h⟩ := xat_inv h
      refine g_sld hX hL hbj58 dL_law_374 ?_
      refine g_aloadx_n hX dL_law_375 rfl 0 rfl ?_
      refine g_iload_n hX dL_law_376 rfl 3 rfl ?_
      refine g_iconst (v := (2 : Int32)) hX dL_law_377 (by decide) ?_
      refine g_iadd hX dL_law_378 ?_
      obtain ⟨hbj59, h⟩ := xat_inv h
      refine g_sld hX hL hbj59 dL_law_379 ?_
      obtain ⟨S60, r61, hcS60, h⟩ := xbI_inv h
      refine g_callV hX hR hV (fun l => c6_ofCode (l := l) hX.vc hV hcS60) xc9_55 rfl ⟨by decide, by decide⟩ rfl rfl (Nat.le_of_ble_eq_true rfl) dL_law_380 ?_
      refine g_aload_n hX dL_law_383 rfl 2 rfl ?_
      refine g_aloadx_n hX dL_law_384 rfl 0 rfl ?_
      refine g_iload_n hX dL_law_385 rfl 3 rfl ?_
      refine g_iconst (v := (1 : Int32)) hX dL_law_386 (by decide) ?_
      refine g_iadd hX dL_law_387 ?_
      obtain ⟨hbj62, h⟩ := xat_inv h
      refine g_sld hX hL hbj62 dL_law_388 ?_
      refine g_aloadx_n hX dL_law_389 rfl 0 rfl ?_
      refine g_iload_n hX dL_law_390 rfl 3 rfl ?_
      refine g_iconst (v := (2 : Int32)) hX dL_law_391 (by decide) ?_
      refine g_iadd hX dL_law_392 ?_
      obtain ⟨hbj63, h⟩ := xat_inv h
      refine g_sld hX hL hbj63 dL_law_393 ?_
      obtain ⟨S64, r65, hcS64, h⟩ := xbI_inv h
      refine g_callV hX hR hV1 (fun l => c7_ofCode (l := l) hX.vc hV1 hcS64) xc9_58 rfl ⟨by decide, by decide⟩ rfl rfl (Nat.le_of_ble_eq_true rfl) dL_law_394 ?_
      refine g_icmp_eq hX 665 dL_law_397 (by decide) (fun hc => ?_) (fun hc => ?_)
      · have h := xif_t hc h
        exact sfL_law_J665 hX hL hR hV hV1 hk18 h
      · have h := xif_f hc h
        refine g_iconst (v := (0 : Int32)) hX dL_law_400 (by decide) ?_
        obtain ⟨hz, h⟩ := xne_inv h
        exact g_lret hX hL hz dL_law_401
    | 10, hn, h =>
      refine g_tsIn hX 402 dL_law_32 hc 10 hn (by rfl) (by decide) ?_
      refine g_aload_n hX dL_law_402 rfl 1 rfl ?_
      refine g_aloadx_n hX dL_law_403 rfl 0 rfl ?_
      refine g_iload_n hX dL_law_404 rfl 3 rfl ?_
      refine g_iconst (v := (1 : Int32)) hX dL_law_405 (by decide) ?_
      refine g_iadd hX dL_law_406 ?_
      obtain ⟨hbj66, h⟩ := xat_inv h
      refine g_sld hX hL hbj66 dL_law_407 ?_
      obtain ⟨S67, r68, hcS67, h⟩ := xbI_inv h
      refine g_callV hX hR hV (fun l => c6_count (l := l) hX.vc hV hcS67) xc9_59 rfl ⟨by decide, by decide⟩ rfl rfl (Nat.le_of_ble_eq_true rfl) dL_law_408 ?_
      refine g_aload_n hX dL_law_411 rfl 2 rfl ?_
      refine g_aloadx_n hX dL_law_412 rfl 0 rfl ?_
      refine g_iload_n hX dL_law_413 rfl 3 rfl ?_
      refine g_iconst (v := (1 : Int32)) hX dL_law_414 (by decide) ?_
      refine g_iadd hX dL_law_415 ?_
      obtain ⟨hbj69, h⟩ := xat_inv h
      refine g_sld hX hL hbj69 dL_law_416 ?_
      obtain ⟨S70, r71, hcS70, h⟩ := xbI_inv h
      refine g_callV hX hR hV1 (fun l => c7_count (l := l) hX.vc hV1 hcS70) xc9_62 rfl ⟨by decide, by decide⟩ rfl rfl (Nat.le_of_ble_eq_true rfl) dL_law_417 ?_
      refine g_icmp_eq hX 665 dL_law_420 (by decide) (fun hc => ?_) (fun hc => ?_)
      · have h := xif_t hc h
        exact sfL_law_J665 hX hL hR hV hV1 hk18 h
      · have h := xif_f hc h
        refine g_iconst (v := (0 : Int32)) hX dL_law_423 (by decide) ?_
        obtain ⟨hz, h⟩ := xne_inv h
        exact g_lret hX hL hz dL_law_424
    | 11, hn, h =>
      refine g_tsIn hX 425 dL_law_32 hc 11 hn (by rfl) (by decide) ?_
      refine g_aload_n hX dL_law_425 rfl 1 rfl ?_
      refine g_aloadx_n hX dL_law_426 rfl 0 rfl ?_
      refine g_iload_n hX dL_law_427 rfl 3 rfl ?_
      refine g_iconst (v := (1 : Int32)) hX dL_law_428 (by decide) ?_
      refine g_iadd hX dL_law_429 ?_
      obtain ⟨hbj72, h⟩ := xat_inv h
      refine g_sld hX hL hbj72 dL_law_430 ?_
      refine g_aloadx_n hX dL_law_431 rfl 0 rfl ?_
      refine g_iload_n hX dL_law_432 rfl 3 rfl ?_
      refine g_iconst (v := (2 : Int32)) hX dL_law_433 (by decide) ?_
      refine g_iadd hX dL_law_434 ?_
      obtain ⟨hbj73, h⟩ := xat_inv h
      refine g_sld hX hL hbj73 dL_law_435 ?_
      obtain ⟨S74, r75, hcS74, h⟩ := xbI_inv h
      refine g_callV hX hR hV (fun l => c6_entry (l := l) hX.vc hV hcS74) xc9_63 rfl ⟨by decide, by decide⟩ rfl rfl (Nat.le_of_ble_eq_true rfl) dL_law_436 ?_
      refine g_aload_n hX dL_law_439 rfl 2 rfl ?_
      refine g_aloadx_n hX dL_law_440 rfl 0 rfl ?_
      refine g_iload_n hX dL_law_441 rfl 3 rfl ?_
      refine g_iconst (v := (1 : Int32)) hX dL_law_442 (by decide) ?_
      refine g_iadd hX dL_law_443 ?_
      obtain ⟨hbj76, h⟩ := xat_inv h
      refine g_sld hX hL hbj76 dL_law_444 ?_
      refine g_aloadx_n hX dL_law_445 rfl 0 rfl ?_
      refine g_iload_n hX dL_law_446 rfl 3 rfl ?_
      refine g_iconst (v := (2 : Int32)) hX dL_law_447 (by decide) ?_
      refine g_iadd hX dL_law_448 ?_
      obtain ⟨hbj77, h⟩ := xat_inv h
      refine g_sld hX hL hbj77 dL_law_449 ?_
      obtain ⟨S78, r79, hcS78, h⟩ := xbI_inv h
      refine g_callV hX hR hV1 (fun l => c7_entry (l := l) hX.vc hV1 hcS78) xc9_66 rfl ⟨by decide, by decide⟩ rfl rfl (Nat.le_of_ble_eq_true rfl) dL_law_450 ?_
      refine g_icmp_eq hX 665 dL_law_453 (by decide) (fun hc => ?_) (fun hc => ?_)
      · have h := xif_t hc h
        exact sfL_law_J665 hX hL hR hV hV1 hk18 h
      · have h := xif_f hc h
        refine g_iconst (v := (0 : Int32)) hX dL_law_456 (by decide) ?_
        obtain ⟨hz, h⟩ := xne_inv h
        exact g_lret hX hL hz dL_law_457
    | 12, hn, h =>
      refine g_tsIn hX 458 dL_law_32 hc 12 hn (by rfl) (by decide) ?_
      refine g_aload_n hX dL_law_458 rfl 1 rfl ?_
      refine g_aloadx_n hX dL_law_459 rfl 0 rfl ?_
      refine g_iload_n hX dL_law_460 rfl 3 rfl ?_
      refine g_iconst (v := (1 : Int32)) hX dL_law_461 (by decide) ?_
      refine g_iadd hX dL_law_462 ?_
      obtain ⟨hbj80, h⟩ := xat_inv h
      refine g_sld hX hL hbj80 dL_law_463 ?_
      obtain ⟨S81, r82, hcS81, h⟩ := xbI_inv h
      refine g_callV hX hR hV (fun l => c6_reading (l := l) hX.vc hV hcS81) xc9_67 rfl ⟨by decide, by decide⟩ rfl rfl (Nat.le_of_ble_eq_true rfl) dL_law_464 ?_
      refine g_aload_n hX dL_law_467 rfl 2 rfl ?_
      refine g_aloadx_n hX dL_law_468 rfl 0 rfl ?_
      refine g_iload_n hX dL_law_469 rfl 3 rfl ?_
      refine g_iconst (v := (1 : Int32)) hX dL_law_470 (by decide) ?_
      refine g_iadd hX dL_law_471 ?_
      obtain ⟨hbj83, h⟩ := xat_inv h
      refine g_sld hX hL hbj83 dL_law_472 ?_
      obtain ⟨S84, r85, hcS84, h⟩ := xbI_inv h
      refine g_callV hX hR hV1 (fun l => c7_reading (l := l) hX.vc hV1 hcS84) xc9_70 rfl ⟨by decide, by decide⟩ rfl rfl (Nat.le_of_ble_eq_true rfl) dL_law_473 ?_
      refine g_icmp_eq hX 665 dL_law_476 (by decide) (fun hc => ?_) (fun hc => ?_)
      · have h := xif_t hc h
        exact sfL_law_J665 hX hL hR hV hV1 hk18 h
      · have h := xif_f hc h
        refine g_iconst (v := (0 : Int32)) hX dL_law_479 (by decide) ?_
        obtain ⟨hz, h⟩ := xne_inv h
        exact g_lret hX hL hz dL_law_480
    | 13, hn, h =>
      refine g_tsIn hX 481 dL_law_32 hc 13 hn (by rfl) (by decide) ?_
      refine g_aload_n hX dL_law_481 rfl 1 rfl ?_
      refine g_aloadx_n hX dL_law_482 rfl 0 rfl ?_
      refine g_iload_n hX dL_law_483 rfl 3 rfl ?_
      refine g_iconst (v := (1 : Int32)) hX dL_law_484 (by decide) ?_
      refine g_iadd hX dL_law_485 ?_
      obtain ⟨hbj86, h⟩ := xat_inv h
      refine g_sld hX hL hbj86 dL_law_486 ?_
      obtain ⟨S87, r88, hcS87, h⟩ := xbI_inv h
      refine g_callV hX hR hV (fun l => c6_read (l := l) hX.vc hV hcS87) xc9_71 rfl ⟨by decide, by decide⟩ rfl rfl (Nat.le_of_ble_eq_true rfl) dL_law_487 ?_
      refine g_aload_n hX dL_law_490 rfl 2 rfl ?_
      refine g_aloadx_n hX dL_law_491 rfl 0 rfl ?_
      refine g_iload_n hX dL_law_492 rfl 3 rfl ?_
      refine g_iconst (v := (1 : Int32)) hX dL_law_493 (by decide) ?_
      refine g_iadd hX dL_law_494 ?_
      obtain ⟨hbj89, h⟩ := xat_inv h
      refine g_sld hX hL hbj89 dL_law_495 ?_
      obtain ⟨S90, r91, hcS90, h⟩ := xbI_inv h
      refine g_callV hX hR hV1 (fun l => c7_read (l := l) hX.vc hV1 hcS90) xc9_74 rfl ⟨by decide, by decide⟩ rfl rfl (Nat.le_of_ble_eq_true rfl) dL_law_496 ?_
      refine g_icmp_eq hX 665 dL_law_499 (by decide) (fun hc => ?_) (fun hc => ?_)
      · have h := xif_t hc h
        exact sfL_law_J665 hX hL hR hV hV1 hk18 h
      · have h := xif_f hc h
        refine g_iconst (v := (0 : Int32)) hX dL_law_502 (by decide) ?_
        obtain ⟨hz, h⟩ := xne_inv h
        exact g_lret hX hL hz dL_law_503
    | 14, hn, h =>
      refine g_tsIn hX 504 dL_law_32 hc 14 hn (by rfl) (by decide) ?_
      refine g_aload_n hX dL_law_504 rfl 1 rfl ?_
      refine g_aloadx_n hX dL_law_505 rfl 0 rfl ?_
      refine g_iload_n hX dL_law_506 rfl 3 rfl ?_
      refine g_iconst (v := (1 : Int32)) hX dL_law_507 (by decide) ?_
      refine g_iadd hX dL_law_508 ?_
      obtain ⟨hbj92, h⟩ := xat_inv h
      refine g_sld hX hL hbj92 dL_law_509 ?_
      refine g_aloadx_n hX dL_law_510 rfl 0 rfl ?_
      refine g_iload_n hX dL_law_511 rfl 3 rfl ?_
      refine g_iconst (v := (2 : Int32)) hX dL_law_512 (by decide) ?_
      refine g_iadd hX dL_law_513 ?_
      obtain ⟨hbj93, h⟩ := xat_inv h
      refine g_sld hX hL hbj93 dL_law_514 ?_
      obtain ⟨S94, r95, hcS94, h⟩ := xbI_inv h
      refine g_callV hX hR hV (fun l => c6_bitsWith (l := l) hX.vc hV hcS94) xc9_75 rfl ⟨by decide, by decide⟩ rfl rfl (Nat.le_of_ble_eq_true rfl) dL_law_515 ?_
      refine g_aload_n hX dL_law_518 rfl 2 rfl ?_
      refine g_aloadx_n hX dL_law_519 rfl 0 rfl ?_
      refine g_iload_n hX dL_law_520 rfl 3 rfl ?_
      refine g_iconst (v := (1 : Int32)) hX dL_law_521 (by decide) ?_
      refine g_iadd hX dL_law_522 ?_
      obtain ⟨hbj96, h⟩ := xat_inv h
      refine g_sld hX hL hbj96 dL_law_523 ?_
      refine g_aloadx_n hX dL_law_524 rfl 0 rfl ?_
      refine g_iload_n hX dL_law_525 rfl 3 rfl ?_
      refine g_iconst (v := (2 : Int32)) hX dL_law_526 (by decide) ?_
      refine g_iadd hX dL_law_527 ?_
      obtain ⟨hbj97, h⟩ := xat_inv h
      refine g_sld hX hL hbj97 dL_law_528 ?_
      obtain ⟨S98, r99, hcS98, h⟩ := xbI_inv h
      refine g_callV hX hR hV1 (fun l => c7_bitsWith (l := l) hX.vc hV1 hcS98) xc9_78 rfl ⟨by decide, by decide⟩ rfl rfl (Nat.le_of_ble_eq_true rfl) dL_law_529 ?_
      refine g_icmp_eq hX 665 dL_law_532 (by decide) (fun hc => ?_) (fun hc => ?_)
      · have h := xif_t hc h
        exact sfL_law_J665 hX hL hR hV hV1 hk18 h
      · have h := xif_f hc h
        refine g_iconst (v := (0 : Int32)) hX dL_law_535 (by decide) ?_
        obtain ⟨hz, h⟩ := xne_inv h
        exact g_lret hX hL hz dL_law_536
    | 15, hn, h =>
      refine g_tsIn hX 537 dL_law_32 hc 15 hn (by rfl) (by decide) ?_
      refine g_aload_n hX dL_law_537 rfl 1 rfl ?_
      refine g_aloadx_n hX dL_law_538 rfl 0 rfl ?_
      refine g_iload_n hX dL_law_539 rfl 3 rfl ?_
      refine g_iconst (v := (1 : Int32)) hX dL_law_540 (by decide) ?_
      refine g_iadd hX dL_law_541 ?_
      obtain ⟨hbj100, h⟩ := xat_inv h
      refine g_sld hX hL hbj100 dL_law_542 ?_
      obtain ⟨S101, r102, hcS101, h⟩ := xbI_inv h
      refine g_callV hX hR hV (fun l => c6_best (l := l) hX.vc hV hcS101) xc9_79 rfl ⟨by decide, by decide⟩ rfl rfl (Nat.le_of_ble_eq_true rfl) dL_law_543 ?_
      refine g_aload_n hX dL_law_546 rfl 2 rfl ?_
      refine g_aloadx_n hX dL_law_547 rfl 0 rfl ?_
      refine g_iload_n hX dL_law_548 rfl 3 rfl ?_
      refine g_iconst (v := (1 : Int32)) hX dL_law_549 (by decide) ?_
      refine g_iadd hX dL_law_550 ?_
      obtain ⟨hbj103, h⟩ := xat_inv h
      refine g_sld hX hL hbj103 dL_law_551 ?_
      obtain ⟨S104, r105, hcS104, h⟩ := xbI_inv h
      refine g_callV hX hR hV1 (fun l => c7_best (l := l) hX.vc hV1 hcS104) xc9_82 rfl ⟨by decide, by decide⟩ rfl rfl (Nat.le_of_ble_eq_true rfl) dL_law_552 ?_
      refine g_icmp_eq hX 665 dL_law_555 (by decide) (fun hc => ?_) (fun hc => ?_)
      · have h := xif_t hc h
        exact sfL_law_J665 hX hL hR hV hV1 hk18 h
      · have h := xif_f hc h
        refine g_iconst (v := (0 : Int32)) hX dL_law_558 (by decide) ?_
        obtain ⟨hz, h⟩ := xne_inv h
        exact g_lret hX hL hz dL_law_559
    | 16, hn, h =>
      refine g_tsIn hX 560 dL_law_32 hc 16 hn (by rfl) (by decide) ?_
      refine g_aload_n hX dL_law_560 rfl 1 rfl ?_
      refine g_aloadx_n hX dL_law_561 rfl 0 rfl ?_
      refine g_iload_n hX dL_law_562 rfl 3 rfl ?_
      refine g_iconst (v := (1 : Int32)) hX dL_law_563 (by decide) ?_
      refine g_iadd hX dL_law_564 ?_
      obtain ⟨hbj106, h⟩ := xat_inv h
      refine g_sld hX hL hbj106 dL_law_565 ?_
      obtain ⟨S107, r108, hcS107, h⟩ := xbI_inv h
      refine g_callV hX hR hV (fun l => c6_tenderest (l := l) hX.vc hV hcS107) xc9_83 rfl ⟨by decide, by decide⟩ rfl rfl (Nat.le_of_ble_eq_true rfl) dL_law_566 ?_
      refine g_aload_n hX dL_law_569 rfl 2 rfl ?_
      refine g_aloadx_n hX dL_law_570 rfl 0 rfl ?_
      refine g_iload_n hX dL_law_571 rfl 3 rfl ?_
      refine g_iconst (v := (1 : Int32)) hX dL_law_572 (by decide) ?_
      refine g_iadd hX dL_law_573 ?_
      obtain ⟨hbj109, h⟩ := xat_inv h
      refine g_sld hX hL hbj109 dL_law_574 ?_
      obtain ⟨S110, r111, hcS110, h⟩ := xbI_inv h
      refine g_callV hX hR hV1 (fun l => c7_tenderest (l := l) hX.vc hV1 hcS110) xc9_86 rfl ⟨by decide, by decide⟩ rfl rfl (Nat.le_of_ble_eq_true rfl) dL_law_575 ?_
      refine g_icmp_eq hX 665 dL_law_578 (by decide) (fun hc => ?_) (fun hc => ?_)
      · have h := xif_t hc h
        exact sfL_law_J665 hX hL hR hV hV1 hk18 h
      · have h := xif_f hc h
        refine g_iconst (v := (0 : Int32)) hX dL_law_581 (by decide) ?_
        obtain ⟨hz, h⟩ := xne_inv h
        exact g_lret hX hL hz dL_law_582
    | 17, hn, h =>
      refine g_tsIn hX 583 dL_law_32 hc 17 hn (by rfl) (by decide) ?_
      refine g_aload_n hX dL_law_583 rfl 1 rfl ?_
      refine g_aloadx_n hX dL_law_584 rfl 0 rfl ?_
      refine g_iload_n hX dL_law_585 rfl 3 rfl ?_
      refine g_iconst (v := (1 : Int32)) hX dL_law_586 (by decide) ?_
      refine g_iadd hX dL_law_587 ?_
      obtain ⟨hbj112, h⟩ := xat_inv h
      refine g_sld hX hL hbj112 dL_law_588 ?_
      obtain ⟨S113, r114, hcS113, h⟩ := xbI_inv h
      refine g_callV hX hR hV (fun l => c6_cheapest (l := l) hX.vc hV hcS113) xc9_87 rfl ⟨by decide, by decide⟩ rfl rfl (Nat.le_of_ble_eq_true rfl) dL_law_589 ?_
      refine g_aload_n hX dL_law_592 rfl 2 rfl ?_
      refine g_aloadx_n hX dL_law_593 rfl 0 rfl ?_
      refine g_iload_n hX dL_law_594 rfl 3 rfl ?_
      refine g_iconst (v := (1 : Int32)) hX dL_law_595 (by decide) ?_
      refine g_iadd hX dL_law_596 ?_
      obtain ⟨hbj115, h⟩ := xat_inv h
      refine g_sld hX hL hbj115 dL_law_597 ?_
      obtain ⟨S116, r117, hcS116, h⟩ := xbI_inv h
      refine g_callV hX hR hV1 (fun l => c7_cheapest (l := l) hX.vc hV1 hcS116) xc9_90 rfl ⟨by decide, by decide⟩ rfl rfl (Nat.le_of_ble_eq_true rfl) dL_law_598 ?_
      refine g_icmp_eq hX 665 dL_law_601 (by decide) (fun hc => ?_) (fun hc => ?_)
      · have h := xif_t hc h
        exact sfL_law_J665 hX hL hR hV hV1 hk18 h
      · have h := xif_f hc h
        refine g_iconst (v := (0 : Int32)) hX dL_law_604 (by decide) ?_
        obtain ⟨hz, h⟩ := xne_inv h
        exact g_lret hX hL hz dL_law_605
    | 18, hn, h =>
      refine g_tsIn hX 606 dL_law_32 hc 18 hn (by rfl) (by decide) ?_
      refine g_aload_n hX dL_law_606 rfl 1 rfl ?_
      obtain ⟨S118, r119, hcS118, h⟩ := xbI_inv h
      refine g_callV hX hR hV (fun l => c6_undo (l := l) hX.vc hV hcS118) xc9_91 rfl ⟨by decide, by decide⟩ rfl rfl (Nat.le_of_ble_eq_true rfl) dL_law_607 ?_
      refine g_aload_n hX dL_law_610 rfl 2 rfl ?_
      obtain ⟨S120, r121, hcS120, h⟩ := xbI_inv h
      refine g_callV hX hR hV1 (fun l => c7_undo (l := l) hX.vc hV1 hcS120) xc9_94 rfl ⟨by decide, by decide⟩ rfl rfl (Nat.le_of_ble_eq_true rfl) dL_law_611 ?_
      refine g_icmp_eq hX 665 dL_law_614 (by decide) (fun hc => ?_) (fun hc => ?_)
      · have h := xif_t hc h
        exact sfL_law_J665 hX hL hR hV hV1 hk18 h
      · have h := xif_f hc h
        refine g_iconst (v := (0 : Int32)) hX dL_law_617 (by decide) ?_
        obtain ⟨hz, h⟩ := xne_inv h
        exact g_lret hX hL hz dL_law_618
    | 19, hn, h =>
      refine g_tsIn hX 619 dL_law_32 hc 19 hn (by rfl) (by decide) ?_
      refine g_aload_n hX dL_law_619 rfl 1 rfl ?_
      refine g_aloadx_n hX dL_law_620 rfl 0 rfl ?_
      refine g_iload_n hX dL_law_621 rfl 3 rfl ?_
      refine g_iconst (v := (1 : Int32)) hX dL_law_622 (by decide) ?_
      refine g_iadd hX dL_law_623 ?_
      obtain ⟨hbj122, h⟩ := xat_inv h
      refine g_sld hX hL hbj122 dL_law_624 ?_
      obtain ⟨S123, r124, hcS123, h⟩ := xbI_inv h
      refine g_callV hX hR hV (fun l => c6_save (l := l) hX.vc hV hcS123) xc9_95 rfl ⟨by decide, by decide⟩ rfl rfl (Nat.le_of_ble_eq_true rfl) dL_law_625 ?_
      refine g_aload_n hX dL_law_628 rfl 2 rfl ?_
      refine g_aloadx_n hX dL_law_629 rfl 0 rfl ?_
      refine g_iload_n hX dL_law_630 rfl 3 rfl ?_
      refine g_iconst (v := (1 : Int32)) hX dL_law_631 (by decide) ?_
      refine g_iadd hX dL_law_632 ?_
      obtain ⟨hbj125, h⟩ := xat_inv h
      refine g_sld hX hL hbj125 dL_law_633 ?_
      obtain ⟨S126, r127, hcS126, h⟩ := xbI_inv h
      refine g_callV hX hR hV1 (fun l => c7_save (l := l) hX.vc hV1 hcS126) xc9_98 rfl ⟨by decide, by decide⟩ rfl rfl (Nat.le_of_ble_eq_true rfl) dL_law_634 ?_
      refine g_icmp_eq hX 665 dL_law_637 (by decide) (fun hc => ?_) (fun hc => ?_)
      · have h := xif_t hc h
        exact sfL_law_J665 hX hL hR hV hV1 hk18 h
      · have h := xif_f hc h
        refine g_iconst (v := (0 : Int32)) hX dL_law_640 (by decide) ?_
        obtain ⟨hz, h⟩ := xne_inv h
        exact g_lret hX hL hz dL_law_641
    | 20, hn, h =>
      refine g_tsIn hX 642 dL_law_32 hc 20 hn (by rfl) (by decide) ?_
      refine g_aload_n hX dL_law_642 rfl 1 rfl ?_
      refine g_aloadx_n hX dL_law_643 rfl 0 rfl ?_
      refine g_iload_n hX dL_law_644 rfl 3 rfl ?_
      refine g_iconst (v := (1 : Int32)) hX dL_law_645 (by decide) ?_
      refine g_iadd hX dL_law_646 ?_
      obtain ⟨hbj128, h⟩ := xat_inv h
      refine g_sld hX hL hbj128 dL_law_647 ?_
      obtain ⟨S129, r130, hcS129, h⟩ := xbI_inv h
      refine g_callV hX hR hV (fun l => c6_restore (l := l) hX.vc hV hcS129) xc9_99 rfl ⟨by decide, by decide⟩ rfl rfl (Nat.le_of_ble_eq_true rfl) dL_law_648 ?_
      refine g_aload_n hX dL_law_651 rfl 2 rfl ?_
      refine g_aloadx_n hX dL_law_652 rfl 0 rfl ?_
      refine g_iload_n hX dL_law_653 rfl 3 rfl ?_
      refine g_iconst (v := (1 : Int32)) hX dL_law_654 (by decide) ?_
      refine g_iadd hX dL_law_655 ?_
      obtain ⟨hbj131, h⟩ := xat_inv h
      refine g_sld hX hL hbj131 dL_law_656 ?_
      obtain ⟨S132, r133, hcS132, h⟩ := xbI_inv h
      refine g_callV hX hR hV1 (fun l => c7_restore (l := l) hX.vc hV1 hcS132) xc9_102 rfl ⟨by decide, by decide⟩ rfl rfl (Nat.le_of_ble_eq_true rfl) dL_law_657 ?_
      refine g_icmp_eq hX 665 dL_law_660 (by decide) (fun hc => ?_) (fun hc => ?_)
      · have h := xif_t hc h
        exact sfL_law_J665 hX hL hR hV hV1 hk18 h
      · have h := xif_f hc h
        refine g_iconst (v := (0 : Int32)) hX dL_law_663 (by decide) ?_
        obtain ⟨hz, h⟩ := xne_inv h
        exact g_lret hX hL hz dL_law_664
    | n + 21, hn, h => cases h
theorem sfL_law_L18 {K : xK} {X : xX} {out : xR} {b L : Nat} {xs : Nat → Int32} (hX : xOK K X RL cL_law 4) (hL : xLaw X b L xs) (hR : xRm X 9 336) (hV : (6, 0) ∈ xvl K) (hV1 : (7, 0) ∈ xvl K)  : ∀ (n : Nat) (S : xSt) (i3 : Int32) (h : fL_law_L18 L xs  n S i3 = some out), xG K X S 18 [(0, .ref b), (1, xr K 6 0), (2, xr K 7 0), (3, .int i3)] [] := by
  intro n
  induction n with
  | zero => intro S i3 h; cases h
  | succ n ih => intro S i3 h; exact sbL_law_L18 hX hL hR hV hV1  ih h
