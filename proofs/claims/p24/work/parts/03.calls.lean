/-! contracts, calls, returns -/
def xQ (K : xK) (out : xR) : Array Value → State → Outcome → State → Prop := fun _ st oc t => oc = .returned out.2 ∧ xWd K out.1 t t.heap ∧ va_F (xA K) st t
def xPre (K : xK) (S : xSt) (U : State) : Prop := xWd K S U U.heap ∧ xStt K (xA K) U U.heap ∧ xNw U
def xMet (l : Launch) (K : xK) (y : MethodName) (b : ByteArray) (maxL : Nat) (ret : Option FieldType) (fr lo : Nat) (S : xSt) (args : List Value) (out : xR) : Prop :=
  Met l y (Cond.code y b maxL ret :: xTB) ({ frames := fr, cells := 0, slots := 0, locals := lo }) (va_Pc args (xPre K S)) (xQ K out) 0 0 (xA K)
def xM (K : xK) (X : xX) (out : xR) (rt : Option FieldType) : Prop := match X with
  | (p, l, e, R, s, m, args, below, meth, c, ce, sl, Q, A) => Q = MQ below (xQ K out) args s 0 0 (xA K) ∧ ce = 0 ∧ sl = 0 ∧ A = xA K ∧ meth.sig.returnType = rt ∧ meth.locks = false
def xRm (X : xX) (fr lo : Nat) : Prop := match X with
  | (p, l, e, R, s, m, args, below, meth, c, ce, sl, Q, A) => fr ≤ R.frames ∧ lo ≤ R.locals ∧ ce ≤ R.cells ∧ sl ≤ R.slots
theorem xStt_moved {K : xK} {A : Nat → Prop} {u U : State} {H : Heap} (hvm : u.vm.Alike U.vm) (h : xStt K A u H) : xStt K A U H := by
  obtain ⟨a1, a2, b1, b2, c1, c2, c3⟩ := h
  exact ⟨va_Z.moved hvm a1, va_T.moved hvm a2, va_Z.moved hvm b1, va_T.moved hvm b2, va_Z.moved hvm c1, va_T.moved hvm c2, va_T.moved hvm c3⟩
theorem xStt_kept {K : xK} {A : Nat → Prop} {U : State} {H H1 : Heap} (h : xStt K A U H) (hq : ∀ a : Nat, a < H.size → ¬ A a → H1[a]? = H[a]?) : xStt K A U H1 := by
  obtain ⟨a1, a2, b1, b2, c1, c2, c3⟩ := h
  exact ⟨a1.kept hq, a2.kept hq, b1.kept hq, b2.kept hq, c1.kept hq, c2.kept hq, c3.kept hq⟩
theorem xStt_narrow {K : xK} {A B : Nat → Prop} {U : State} {H : Heap} (h : xStt K A U H) (hAB : ∀ q, B q → A q) : xStt K B U H := by
  obtain ⟨a1, a2, b1, b2, c1, c2, c3⟩ := h
  exact ⟨a1.narrow hAB, a2.narrow hAB, b1.narrow hAB, b2.narrow hAB, c1.narrow hAB, c2.narrow hAB, c3.narrow hAB⟩
theorem xWd_moved {K : xK} {S : xSt} {u U : State} {H : Heap} (hvm : u.vm.Alike U.vm) (h : xWd K S u H) : xWd K S U H := ⟨h.1, va_K.moved hvm h.2.1, h.2.2⟩
theorem xPre_blind {K : xK} {S : xSt} {args : List Value} : FrameBlind (va_Pc args (xPre K S)) := by
  intro a U g mk h
  exact ⟨h.1, ⟨xWd_moved (u := U) (U := U.calling g mk a) (Vm.Alike.refl U.vm) h.2.1, xStt_moved (u := U) (U := U.calling g mk a) (Vm.Alike.refl U.vm) h.2.2.1, xNw_same (u := U) (U := U.calling g mk a) rfl h.2.2.2⟩⟩
theorem xMet_of {l : Launch} {K : xK} {y : MethodName} {b : ByteArray} {maxL : Nat} {ret : Option FieldType} {fr lo : Nat} {S : xSt} {args : List Value} {out : xR} (own : String) (hy : plainName y.cls = true) (hown : y.cls = own) (hvc : xVC (xvl K)) (hargs : (lg_sl args).length ≤ maxL)
    (body : ∀ X, xOK K X own b maxL → xM K X out ret → xRm X fr lo → xG K X S 0 (lv_args 0 args) []) : xMet l K y b maxL ret fr lo S args out := by
  refine Met.ofW (cc := b) (maxL := maxL) (ret := ret) hy rfl ?_
  intro p e s m args' below meth c s₁ B hml hv
  obtain ⟨rfl, hwd, hst, hnw⟩ := hv
  have hts := atoms_spec (ws := Cond.code y b maxL ret :: xTB) B.pre
  have hown2 : s.vm.findClass y.cls = some m.cls := findClass_of_methodNamed B.named
  rw [hown] at hown2
  rw [lg_entry_eq]
  exact body (p, l, e, _, s, m, args.toArray, below, meth, c, 0, 0, MQ below (xQ K out) args.toArray s 0 0 (xA K), xA K) ⟨B.exec, B.bytes, hml, hown2, fun w hw => hts w (List.mem_cons_of_mem _ hw), fun t o h => ⟨t, o, h, rfl⟩, hst, hvc, hnw⟩ ⟨rfl, rfl, rfl, rfl, B.returns, B.notSynchronized⟩ ⟨Nat.le_refl _, Nat.le_refl _, Nat.le_refl _, Nat.le_refl _⟩ s.heap [] _ hwd va_S.rf (by rw [hml]; exact lv_entry args hargs)
/-- what the tables say of a call -/
def xCB (own : String) (idx : Nat) (y : MethodName) (b : ByteArray) (maxL : Nat) (ret : Option FieldType) (n : Nat) : Prop :=
  (Cond.methodLink own idx y ∈ xTB ∨ ∃ host, Cond.methodLinkNest own idx y host ∈ xNL) ∧ Cond.initialized y.cls ∈ xTB ∧ Cond.code y b maxL ret ∈ xTB ∧ y.cls ≠ "java/lang/invoke/MethodHandle" ∧ y.cls ≠ "java/lang/invoke/VarHandle" ∧ (parseMethodDescriptor y.desc).map (fun d => d.parameters.length) = some n
def xCV (own : String) (idx t : Nat) (y : MethodName) (b : ByteArray) (maxL : Nat) (ret : Option FieldType) (n : Nat) : Prop :=
  xCB own idx y b maxL ret n ∧ Cond.instanceMethod y ∈ xTB ∧ Cond.selects y.cls y y ∈ xTB ∧ (∃ T N, vwCl[t]? = some (y.cls, T, N)) ∧ ∀ (K : xK) (f : Nat → Int32) (o : Nat), xE K f t o = .inr (t, xfs K f t o)
def xCS (own : String) (idx : Nat) (y : MethodName) (b : ByteArray) (maxL : Nat) (ret : Option FieldType) (n : Nat) : Prop :=
  xCB own idx y b maxL ret n ∧ Cond.static y ∈ xTB
theorem xTB_good {w : Cond} (h : w ∈ xTB) : goodWord w = true := (List.mem_filter.mp h).2
theorem xTB_in {y : MethodName} {b : ByteArray} {maxL : Nat} {ret : Option FieldType} (h : Cond.code y b maxL ret ∈ xTB) : GoodIn xTB (Cond.code y b maxL ret :: xTB) := by
  intro w hw
  rcases List.mem_cons.mp hw with rfl | hw
  · exact ⟨h, good_of_word (xTB_good h)⟩
  · exact ⟨hw, good_of_word (xTB_good hw)⟩
theorem x_call {p : Program} {l : Launch} {e : Env} {R : Room} {s : State} {m : MethodId} {args : Array Value} {below : List Frame} {meth : Method} {c : Code} {H : Heap} {locs : List Loc} {ce sl : Nat} {Q : State → Prop} {A0 : Nat → Prop} {K : xK} {S1 : xSt} {v : Option Value} {pc : Nat} {ls : Array Slot} {st0 rest : List Value} {a : Array Value}
    (hr : va_Run p l e R s m args below meth c H locs ce sl 0 0 (F0 m pc ls st0) rest (xQ K (S1, v) a) (xA K)) (hS : va_S A0 s.heap H locs) (hA : ∀ t o, (t, o) ∈ xvl K → A0 (xad K t o))
    (kk : ∀ (H1 : Heap) (locs1 : List Loc), xWd K S1 s H1 → va_S A0 s.heap H1 locs1 → W p l e R s m args below meth c H1 locs1 ce sl Q (F0 m (pc + 3) ls (v.toList ++ rest))) : W p l e R s m args below meth c H locs ce sl Q (F0 m pc ls st0) := by
  intro T hT X
  obtain ⟨v', st₀, t, T', L, h0, X', hL, e1, e2, ⟨hv, hw, hz, hk⟩, st⟩ := hr T hT X
  cases hv
  rw [h0] at hz hk
  have hAA : ∀ q, xA K q → A0 q := by rintro q ⟨t, o, h, rfl⟩; exact hA t o h
  have hal : s.vm.Alike t.vm := by rw [← e2]; exact X'.warmed.alike
  obtain ⟨t2, a1, b1⟩ := kk T'.heap (locs ++ L) (by rw [e1]; exact xWd_moved hal.symm hw)
    ⟨Nat.le_trans hS.1 (by rw [e1]; exact hz), fun q h1 h2 => by rw [e1, hk q (Nat.lt_of_lt_of_le h1 hS.1) (fun z => h2 (hAA q z))]; exact hS.2.1 q h1 h2, fun q hq => by
      rcases List.mem_append.mp hq with h | h
      · exact hS.2.2 q h
      · exact hAA _ (hL q h)⟩ T' rfl X'
  exact ⟨t2, st t2 a1, b1⟩
theorem x_pre {K : xK} {S : xSt} {A : Nat → Prop} {s : State} {H : Heap} {locs : List Loc} (wd : xWd K S s H) (hS : va_S A s.heap H locs) (hA : ∀ t o, (t, o) ∈ xvl K → A (xad K t o)) (hst : xStt K A s s.heap) (hnw : xNw s) (As : List Value) : ∀ U : State, U.heap = H → s.WarmedH U.vm → va_Pc As (xPre K S) As.toArray U := by
  intro U hU hW
  refine ⟨rfl, by rw [hU]; exact xWd_moved hW.alike wd, ?_, xNw_warm hW hnw⟩
  rw [hU]
  exact xStt_moved hW.alike (xStt_narrow (xStt_kept hst (fun a ha hn => hS.2.1 a ha hn)) (by rintro q ⟨t, o, h, rfl⟩; exact hA t o h))
section XC
variable {K : xK} {X : xX} {own : String} {cc : ByteArray} {nL : Nat} {S : xSt} {pc : Nat} {lv : List (Nat × Value)} {st : List Value}
theorem g_callV {y : MethodName} {bytes : ByteArray} {maxL fr lo n idx t o : Nat} {ret : Option FieldType} {As stk st2 : List Value} {S1 : xSt} {v : Option Value} (hX : xOK K X own cc nL) {fr0 lo0 : Nat} (hR : xRm X fr0 lo0) (hV : (t, o) ∈ xvl K) (hM : ∀ l, xMet l K y bytes maxL ret fr lo S (xr K t o :: As) (S1, v)) (hC : xCV own idx t y bytes maxL ret n)
    (hn : As.length = n) (hfl : fr + 1 ≤ fr0 ∧ 8 + (maxL + 11) + lo ≤ lo0) (hstk : stk = As.reverse ++ xr K t o :: st) (hst2 : v.toList ++ st = st2) (hW : (st.map fun v => v.category).sum ≤ 8) (d : decode cc pc = .ok (.invokevirtual idx, 3)) (kk : xG K X S1 (pc + 3) lv st2) : xG K X S pc lv stk := by
  obtain ⟨p, l, e, R, s, m, args, below, meth, c, ce, sl, Q, A⟩ := X
  obtain ⟨hx, hb, hml, hown, hts, hA, hst, hvc⟩ := hX
  obtain ⟨r1, r2, r3, r4⟩ := hR
  obtain ⟨⟨c1, c2, c3, c4, c5, c6⟩, c7, c8, ⟨T, N, c9⟩, c10⟩ := hC
  intro H locs ls wd hS hv
  subst hstk
  subst hst2
  have hRR : fr + 1 ≤ R.frames ∧ 8 + (maxL + 11) + lo ≤ R.locals := ⟨by omega, by omega⟩
  obtain ⟨k, hk, he⟩ := xws_at (S := S) hV
  rw [c10 K (S t o) o] at he
  have hpv : PreV s H y.cls (xad K t o) (va_Pc (xr K t o :: As) (xPre K S)) As := ⟨xPre_blind, va_recv wd.2.1 wd.1 c9 he, x_pre wd hS hA hst hvc.2 (xr K t o :: As)⟩
  refine x_call (v := v) (S1 := S1) (a := (Value.ref (xad K t o) :: As).toArray) ?_ hS hA (fun H1 locs1 w1 hS1 => kk H1 locs1 ls w1 hS1 hv)
  rcases c1 with c1 | ⟨host, c1⟩
  · exact va_runV (ws := Cond.code y bytes maxL ret :: xTB) (As := As) ⟨hx, hb, hml, hown, hts⟩ (hM l) ⟨callB_of n hts (xTB_in c3) rfl rfl rfl (hts _ c2) (hts _ c1) ⟨c4, c5, c6⟩ hRR, hts _ c7, hts _ c8⟩ hpv rfl hn (by rw [hv.1, hml]) rfl (by show 2 * 0 + _ ≤ 8; omega) d ⟨r3, r4⟩
  · exact va_runVN (ws := Cond.code y bytes maxL ret :: xTB) (As := As) ⟨hx, hb, hml, hown, hts⟩ (hM l) ⟨va_cnB n hts (xTB_in c3) rfl rfl rfl (hvc.2 _ c1) (hts _ c2) ⟨c4, c5, c6⟩ hRR, hts _ c7, hts _ c8⟩ hpv rfl hn (by rw [hv.1, hml]) rfl (by show 2 * 0 + _ ≤ 8; omega) d ⟨r3, r4⟩
theorem g_callS {y : MethodName} {bytes : ByteArray} {maxL fr lo n idx : Nat} {ret : Option FieldType} {As stk st2 : List Value} {S1 : xSt} {v : Option Value} (hX : xOK K X own cc nL) {fr0 lo0 : Nat} (hR : xRm X fr0 lo0) (hM : ∀ l, xMet l K y bytes maxL ret fr lo S As (S1, v)) (hC : xCS own idx y bytes maxL ret n)
    (hn : As.length = n) (hfl : fr + 1 ≤ fr0 ∧ 8 + (maxL + 11) + lo ≤ lo0) (hstk : stk = As.reverse ++ st) (hst2 : v.toList ++ st = st2) (hW : (st.map fun v => v.category).sum ≤ 8) (d : decode cc pc = .ok (.invokestatic idx, 3)) (kk : xG K X S1 (pc + 3) lv st2) : xG K X S pc lv stk := by
  obtain ⟨p, l, e, R, s, m, args, below, meth, c, ce, sl, Q, A⟩ := X
  obtain ⟨hx, hb, hml, hown, hts, hA, hst, hvc⟩ := hX
  obtain ⟨r1, r2, r3, r4⟩ := hR
  obtain ⟨⟨c1, c2, c3, c4, c5, c6⟩, c7⟩ := hC
  intro H locs ls wd hS hv
  subst hstk
  subst hst2
  have hRR : fr + 1 ≤ R.frames ∧ 8 + (maxL + 11) + lo ≤ R.locals := ⟨by omega, by omega⟩
  have hpv : PreS s H (va_Pc As (xPre K S)) As := ⟨xPre_blind, x_pre wd hS hA hst hvc.2 As⟩
  refine x_call (v := v) (S1 := S1) (a := As.toArray) ?_ hS hA (fun H1 locs1 w1 hS1 => kk H1 locs1 ls w1 hS1 hv)
  rcases c1 with c1 | ⟨host, c1⟩
  · exact va_runS (ws := Cond.code y bytes maxL ret :: xTB) (As := As) ⟨hx, hb, hml, hown, hts⟩ (hM l) ⟨callB_of n hts (xTB_in c3) rfl rfl rfl (hts _ c2) (hts _ c1) ⟨c4, c5, c6⟩ hRR, hts _ c7⟩ hpv rfl hn (by rw [hv.1, hml]) rfl (by show 2 * 0 + _ ≤ 8; omega) d ⟨r3, r4⟩
  · exact va_runSN (ws := Cond.code y bytes maxL ret :: xTB) (As := As) ⟨hx, hb, hml, hown, hts⟩ (hM l) ⟨va_cnB n hts (xTB_in c3) rfl rfl rfl (hvc.2 _ c1) (hts _ c2) ⟨c4, c5, c6⟩ hRR, hts _ c7, trivial⟩ hpv rfl hn (by rw [hv.1, hml]) rfl (by show 2 * 0 + _ ≤ 8; omega) d ⟨r3, r4⟩
/-- returns -/
theorem g_iret {out : xR} {v : Int32} (hX : xOK K X own cc nL) (hM : xM K X out (some .int)) (e9 : (S, some (Value.int v)) = out) (d : decode cc pc = .ok (.ireturn, 1)) : xG K X S pc lv [.int v] := by
  obtain ⟨p, l, e, R, s, m, args, below, meth, c, ce, sl, Q, A⟩ := X
  obtain ⟨hx, hb, hml, hown, hts, hA, hst, hvc⟩ := hX
  obtain ⟨rfl, rfl, rfl, rfl, hrt, hlk⟩ := hM
  intro H locs ls wd hS hv
  subst e9
  exact W.iret hx hb hrt (fun t ht hW => ⟨rfl, by rw [ht]; exact xWd_moved hW.alike wd, hS.F ht⟩) hS.2.2 d hlk
theorem g_zret {out : xR} {v : Int32} (hX : xOK K X own cc nL) (hM : xM K X out (some .boolean)) (hz : v &&& 1 = v) (e9 : (S, some (Value.int v)) = out) (d : decode cc pc = .ok (.ireturn, 1)) : xG K X S pc lv [.int v] := by
  obtain ⟨p, l, e, R, s, m, args, below, meth, c, ce, sl, Q, A⟩ := X
  obtain ⟨hx, hb, hml, hown, hts, hA, hst, hvc⟩ := hX
  obtain ⟨rfl, rfl, rfl, rfl, hrt, hlk⟩ := hM
  intro H locs ls wd hS hv
  subst e9
  exact W.zret hx hb hrt (by show Value.int (v &&& 1) = _; rw [hz]) (fun t ht hW => ⟨rfl, by rw [ht]; exact xWd_moved hW.alike wd, hS.F ht⟩) hS.2.2 d hlk
theorem g_vret {out : xR} (hX : xOK K X own cc nL) (hM : xM K X out none) (e9 : (S, (none : Option Value)) = out) (d : decode cc pc = .ok (.return_, 1)) : xG K X S pc lv [] := by
  obtain ⟨p, l, e, R, s, m, args, below, meth, c, ce, sl, Q, A⟩ := X
  obtain ⟨hx, hb, hml, hown, hts, hA, hst, hvc⟩ := hX
  obtain ⟨rfl, rfl, rfl, rfl, hrt, hlk⟩ := hM
  intro H locs ls wd hS hv
  subst e9
  exact W.vret hx hb hrt (fun t ht hW => ⟨rfl, by rw [ht]; exact xWd_moved hW.alike wd, hS.F ht⟩) hS.2.2 d hlk
/-- Math.max, Math.min, System.arraycopy over two rows of ints -/
theorem g_max {idx : Nat} {x y : Int32} (hX : xOK K X own cc nL) {fr0 lo0 : Nat} (hR : xRm X fr0 lo0) (h1 : 1 ≤ fr0) (h2 : (st.map fun v => v.category).sum + 13 ≤ lo0) (hl : Cond.methodLink own idx Lib.Math.max.name ∈ xTB) (hs : Cond.static Lib.Math.max.name ∈ xTB) (hi : Cond.initialized "java/lang/Math" ∈ xTB) (hc : Cond.code Lib.Math.max.name Lib.Math.max.code 2 (some .int) ∈ xTB) (d : decode cc pc = .ok (.invokestatic idx, 3)) (kk : xG K X S (pc + 3) lv (.int (if x < y then y else x) :: st)) : xG K X S pc lv (.int y :: .int x :: st) := by
  obtain ⟨p, l, e, R, s, m, args, below, meth, c, ce, sl, Q, A⟩ := X
  obtain ⟨hx, hb, hml, hown, hts, hA, hst, hvc⟩ := hX
  obtain ⟨r1, r2, r3, r4⟩ := hR
  intro H locs ls wd hS hv
  exact va_mmax hx hb hv.1.symm hown (hts _ hl) (hts _ hs) (hts _ hi) (hts _ hc) (by omega) (by omega) r3 r4 d (kk H locs ls wd hS hv)
theorem g_min {idx : Nat} {x y : Int32} (hX : xOK K X own cc nL) {fr0 lo0 : Nat} (hR : xRm X fr0 lo0) (h1 : 1 ≤ fr0) (h2 : (st.map fun v => v.category).sum + 13 ≤ lo0) (hl : Cond.methodLink own idx Lib.Math.min.name ∈ xTB) (hs : Cond.static Lib.Math.min.name ∈ xTB) (hi : Cond.initialized "java/lang/Math" ∈ xTB) (hc : Cond.code Lib.Math.min.name Lib.Math.min.code 2 (some .int) ∈ xTB) (d : decode cc pc = .ok (.invokestatic idx, 3)) (kk : xG K X S (pc + 3) lv (.int (if y < x then y else x) :: st)) : xG K X S pc lv (.int y :: .int x :: st) := by
  obtain ⟨p, l, e, R, s, m, args, below, meth, c, ce, sl, Q, A⟩ := X
  obtain ⟨hx, hb, hml, hown, hts, hA, hst, hvc⟩ := hX
  obtain ⟨r1, r2, r3, r4⟩ := hR
  intro H locs ls wd hS hv
  exact va_mmin hx hb hv.1.symm hown (hts _ hl) (hts _ hs) (hts _ hi) (hts _ hc) (by omega) (by omega) r3 r4 d (kk H locs ls wd hS hv)
/-- what arraycopy asks -/
abbrev xcpok (sp dp n : Int32) (n0 n1 : Nat) : Prop := ¬ sp < 0 ∧ ¬ dp < 0 ∧ ¬ n < 0 ∧ sp.toNatClampNeg + n.toNatClampNeg ≤ n0 ∧ dp.toNatClampNeg + n.toNatClampNeg ≤ n1
theorem g_copy {idx t0 o0 t1 o1 n0 n1 : Nat} {sp dp n : Int32} {S1 : xSt} (hX : xOK K X own cc nL) {fr0 lo0 : Nat} (hR : xRm X fr0 lo0) (h1 : 1 ≤ fr0) (h2 : (st.map fun v => v.category).sum + (nativeFrameWords "java/lang/System" "arraycopy" 5 + 11) ≤ lo0) (hl : Cond.methodLink own idx arraycopyName ∈ xTB) (hnt : Cond.native arraycopyName ∈ xTB) (hs : Cond.static arraycopyName ∈ xTB) (hi : Cond.initialized "java/lang/System" ∈ xTB)
    (hV0 : (t0, o0) ∈ xvl K) (hV1 : (t1, o1) ∈ xvl K) (hE0 : ∀ f, xE K f t0 o0 = .inl (xcy K 0, n0, .inl f)) (hE1 : ∀ f, xE K f t1 o1 = .inl (xcy K 0, n1, .inl f)) (hok : xcpok sp dp n n0 n1) (d : decode cc pc = .ok (.invokestatic idx, 3)) (e9 : xua S t1 o1 (va_cpy (S t0 o0) (S t1 o1) sp.toNatClampNeg dp.toNatClampNeg n.toNatClampNeg) = S1) (kk : xG K X S1 (pc + 3) lv st) : xG K X S pc lv (.int n :: .int dp :: xr K t1 o1 :: .int sp :: xr K t0 o0 :: st) := by
  obtain ⟨p, l, e, R, s, m, args, below, meth, c, ce, sl, Q, A⟩ := X
  obtain ⟨hx, hb, hml, hown, hts, hA, hst, hvc⟩ := hX
  obtain ⟨r1, r2, r3, r4⟩ := hR
  intro H locs ls wd hS hv
  obtain ⟨k0, hk0, he0⟩ := xws_at (S := S) hV0
  obtain ⟨k1, hk1, he1⟩ := xws_at (S := S) hV1
  rw [hE0] at he0
  rw [hE1] at he1
  refine va_copyi hx hb hv.1.symm hown (hts _ hl) (hts _ hnt) (hts _ hs) (hts _ hi) wd.2.1 wd.1 (xWd_A wd.2.2 hA) hS k0 k1 0 0 he0 he1 rfl rfl rfl hok.1 hok.2.1 hok.2.2.1 hok.2.2.2.1 hok.2.2.2.2 (fun _ _ => rfl) (by omega) (by omega) d (fun H1 locs1 hP hD hS1 => ?_)
  rw [← hE1, xws_set wd.2.2 hk1, e9] at hP hD
  exact kk H1 locs1 ls ⟨hP, wd.2.1, ⟨hD.1, fun _ _ _ => trivial⟩⟩ hS1 hv
end XC
