/-! constructors: worlds as lists; cells come -/
def kFst (K : xK) (A : Nat → Prop) (U : State) (H : Heap) : Prop := ∃ cell : Cell, H[xsa K 2]? = some cell ∧ cell.vm.isStatics = false ∧ cell.vm ≠ .unknown ∧ U.vm.findClass "[I" = some cell.cls ∧ cell.slots = #[Value.int 6, Value.int 1, Value.int 8] ∧ ¬ A (xsa K 2)
theorem kFst_moved {K : xK} {A : Nat → Prop} {u U : State} {H : Heap} (hvm : u.vm.Alike U.vm) (h : kFst K A u H) : kFst K A U H := by
  obtain ⟨cell, h1, h2, h3, h4, h5⟩ := h
  exact ⟨cell, h1, h2, h3, by rw [hvm.findClass]; exact h4, h5⟩
theorem kFst_kept {K : xK} {A : Nat → Prop} {U : State} {H H1 : Heap} (h : kFst K A U H) (hq : ∀ a : Nat, a < H.size → ¬ A a → H1[a]? = H[a]?) : kFst K A U H1 := by
  obtain ⟨cell, h1, h2, h3, h4, h5, h6⟩ := h
  exact ⟨cell, by rw [hq _ (Array.getElem?_eq_some_iff.mp h1).1 h6]; exact h1, h2, h3, h4, h5, h6⟩
theorem kFst_narrow {K : xK} {A B : Nat → Prop} {U : State} {H : Heap} (h : kFst K A U H) (hAB : ∀ q, B q → A q) : kFst K B U H := by
  obtain ⟨cell, h1, h2, h3, h4, h5, h6⟩ := h
  exact ⟨cell, h1, h2, h3, h4, h5, fun z => h6 (hAB _ z)⟩
def kSt (K : xK) (A : Nat → Prop) (U : State) (H : Heap) : Prop := xStt K A U H ∧ kFst K A U H
def kW (U : State) : Prop := va_Nw (.castable "[I" "java/lang/Cloneable") U ∧ va_AO "GrowingBook$State" U
def kG (K : xK) (X : xX) (ws : va_W) (ce sl : Nat) (pc : Nat) (lv : List (Nat × Value)) (st : List Value) : Prop := match X with
  | (p, l, e, R, s, m, args, below, meth, c, ce0, sl0, Q, A) => ∀ (H : Heap) (locs : List Loc) (ls : Array Slot), va_P K.1 vwCl ws H → va_D A ws → va_S A s.heap H locs → lv_has ls c.maxLocals lv → W p l e R s m args below meth c H locs ce sl Q (F0 m pc ls st)
def kOK (K : xK) (X : xX) (own : String) (cc : ByteArray) (nL : Nat) : Prop := match X with
  | (p, l, e, R, s, m, args, below, meth, c, ce, sl, Q, A) => p.tables.exec = Jvm.exec ∧ c.code = cc ∧ c.maxLocals = nL ∧ s.vm.findClass own = some m.cls ∧ (∀ w ∈ xTB, w.before args s = true) ∧ (∀ q, s.heap.size ≤ q → A q) ∧ va_K K.1 vwCl (xtys K) s ∧ kSt K A s s.heap ∧ xNw s ∧ kW s
def kRm (X : xX) (fr lo mc ms : Nat) : Prop := match X with
  | (p, l, e, R, s, m, args, below, meth, c, ce, sl, Q, A) => fr ≤ R.frames ∧ lo ≤ R.locals ∧ mc ≤ R.cells ∧ ms ≤ R.slots
def kIn (X : xX) : Prop := match X with
  | (p, l, e, R, s, m, args, below, meth, c, ce, sl, Q, A) => meth.name = "<init>"
section KG
variable {K : xK} {X : xX} {own : String} {cc : ByteArray} {nL : Nat} {ws : va_W} {ce sl : Nat} {pc : Nat} {lv : List (Nat × Value)} {st : List Value} {fr lo mc ms : Nat}
theorem k_iconst {n : Int} {v : Int32} (hX : kOK K X own cc nL) (d : decode cc pc = .ok (.iconst n, 1)) (hv9 : Int32.ofInt n = v) (kk : kG K X ws ce sl (pc + 1) lv (.int v :: st)) : kG K X ws ce sl pc lv st := by
  obtain ⟨p, l, e, R, s, m, args, below, meth, c, ce0, sl0, Q, A⟩ := X
  obtain ⟨hx, hb, hml, hown, hts, hA, hK, hst, hnw⟩ := hX
  intro H locs ls hP hD hS hv
  exact lv_iconst hx hb d hv9 (kk H locs ls hP hD hS hv)
theorem k_bipush {n : Int} {v : Int32} (hX : kOK K X own cc nL) (d : decode cc pc = .ok (.bipush n, 2)) (hv9 : (Int8.ofInt n).toInt32 = v) (kk : kG K X ws ce sl (pc + 2) lv (.int v :: st)) : kG K X ws ce sl pc lv st := by
  obtain ⟨p, l, e, R, s, m, args, below, meth, c, ce0, sl0, Q, A⟩ := X
  obtain ⟨hx, hb, hml, hown, hts, hA, hK, hst, hnw⟩ := hX
  intro H locs ls hP hD hS hv
  exact lv_bipush hx hb d hv9 (kk H locs ls hP hD hS hv)
theorem k_sipush {n : Int} {v : Int32} (hX : kOK K X own cc nL) (d : decode cc pc = .ok (.sipush n, 3)) (hv9 : (Int16.ofInt n).toInt32 = v) (kk : kG K X ws ce sl (pc + 3) lv (.int v :: st)) : kG K X ws ce sl pc lv st := by
  obtain ⟨p, l, e, R, s, m, args, below, meth, c, ce0, sl0, Q, A⟩ := X
  obtain ⟨hx, hb, hml, hown, hts, hA, hK, hst, hnw⟩ := hX
  intro H locs ls hP hD hS hv
  exact lv_sipush hx hb d hv9 (kk H locs ls hP hD hS hv)
theorem k_iload_n {k : Fin 4} {i : Nat} {x : Int32} (hX : kOK K X own cc nL) (d : decode cc pc = .ok (.iload_n k, 1)) (hi : (k : Nat) = i) (q : Nat) (hl : lv[q]? = some (i, .int x)) (kk : kG K X ws ce sl (pc + 1) lv (.int x :: st)) : kG K X ws ce sl pc lv st := by
  obtain ⟨p, l, e, R, s, m, args, below, meth, c, ce0, sl0, Q, A⟩ := X
  obtain ⟨hx, hb, hml, hown, hts, hA, hK, hst, hnw⟩ := hX
  intro H locs ls hP hD hS hv
  exact lv_iload_n hx hb d hi (lv_at hv q hl) (kk H locs ls hP hD hS hv)
theorem k_dup {va : Value} (hX : kOK K X own cc nL) (d : decode cc pc = .ok (.dup, 1)) (hva : va.category = 1) (kk : kG K X ws ce sl (pc + 1) lv (va :: va :: st)) : kG K X ws ce sl pc lv (va :: st) := by
  obtain ⟨p, l, e, R, s, m, args, below, meth, c, ce0, sl0, Q, A⟩ := X
  obtain ⟨hx, hb, hml, hown, hts, hA, hK, hst, hnw⟩ := hX
  intro H locs ls hP hD hS hv
  exact lv_dup hx hb d hva (kk H locs ls hP hD hS hv)
theorem k_istore_n {k : Fin 4} {i : Nat} {x : Int32} {lv2 : List (Nat × Value)} (hX : kOK K X own cc nL) (d : decode cc pc = .ok (.istore_n k, 1)) (hi : (k : Nat) = i) (hn : i < nL) (hl : (i, Value.int x) :: lv.filter (fun q => !(q.1 == i) && !(q.1 + 1 == i && q.2.category == 2)) = lv2) (kk : kG K X ws ce sl (pc + 1) lv2 st) : kG K X ws ce sl pc lv (.int x :: st) := by
  obtain ⟨p, l, e, R, s, m, args, below, meth, c, ce0, sl0, Q, A⟩ := X
  obtain ⟨hx, hb, hml, hown, hts, hA, hK, hst, hnw⟩ := hX
  intro H locs ls hP hD hS hv
  exact lv_istore_n hx hb d hi hv (by rw [hml]; exact hn) hl (fun ls2 hv2 => kk H locs ls2 hP hD hS hv2)
theorem k_astore_n {k : Fin 4} {i x : Nat} {lv2 : List (Nat × Value)} (hX : kOK K X own cc nL) (d : decode cc pc = .ok (.astore_n k, 1)) (hi : (k : Nat) = i) (hn : i < nL) (hl : (i, Value.ref x) :: lv.filter (fun q => !(q.1 == i) && !(q.1 + 1 == i && q.2.category == 2)) = lv2) (kk : kG K X ws ce sl (pc + 1) lv2 st) : kG K X ws ce sl pc lv (.ref x :: st) := by
  obtain ⟨p, l, e, R, s, m, args, below, meth, c, ce0, sl0, Q, A⟩ := X
  obtain ⟨hx, hb, hml, hown, hts, hA, hK, hst, hnw⟩ := hX
  intro H locs ls hP hD hS hv
  exact lv_astore_n hx hb d hi hv (by rw [hml]; exact hn) hl (fun ls2 hv2 => kk H locs ls2 hP hD hS hv2)
theorem k_iinc {i : Nat} {n : Int} {x v : Int32} {lv2 : List (Nat × Value)} (hX : kOK K X own cc nL) (d : decode cc pc = .ok (.iinc i n, 3)) (q : Nat) (hq : lv[q]? = some (i, .int x)) (hv9 : x + Int32.ofInt n = v) (hn : i < nL) (hl : (i, Value.int v) :: lv.filter (fun q => !(q.1 == i) && !(q.1 + 1 == i && q.2.category == 2)) = lv2) (kk : kG K X ws ce sl (pc + 3) lv2 st) : kG K X ws ce sl pc lv st := by
  obtain ⟨p, l, e, R, s, m, args, below, meth, c, ce0, sl0, Q, A⟩ := X
  obtain ⟨hx, hb, hml, hown, hts, hA, hK, hst, hnw⟩ := hX
  intro H locs ls hP hD hS hv
  exact lv_iinc hx hb d hv hq hv9 (by rw [hml]; exact hn) hl (fun ls2 hv2 => kk H locs ls2 hP hD hS hv2)
theorem k_goto {off : Int} (hX : kOK K X own cc nL) (tgt : Nat) (d : decode cc pc = .ok (.goto off, 3)) (ht : (pc : Int) + off = (tgt : Int)) (kk : kG K X ws ce sl tgt lv st) : kG K X ws ce sl pc lv st := by
  obtain ⟨p, l, e, R, s, m, args, below, meth, c, ce0, sl0, Q, A⟩ := X
  obtain ⟨hx, hb, hml, hown, hts, hA, hK, hst, hnw⟩ := hX
  intro H locs ls hP hD hS hv
  exact lv_goto hx hb d ht (kk H locs ls hP hD hS hv)
theorem k_icmp_ge {x y : Int32} {off : Int} (hX : kOK K X own cc nL) (tgt : Nat) (d : decode cc pc = .ok (.if_icmp .ge off, 3)) (ht : (pc : Int) + off = (tgt : Int)) (kt : y ≤ x → kG K X ws ce sl tgt lv st) (kf : ¬ y ≤ x → kG K X ws ce sl (pc + 3) lv st) : kG K X ws ce sl pc lv (.int y :: .int x :: st) := by
  obtain ⟨p, l, e, R, s, m, args, below, meth, c, ce0, sl0, Q, A⟩ := X
  obtain ⟨hx, hb, hml, hown, hts, hA, hK, hst, hnw⟩ := hX
  intro H locs ls hP hD hS hv
  exact lv_icmp_ge hx hb d ht (fun h => kt h H locs ls hP hD hS hv) (fun h => kf h H locs ls hP hD hS hv)
theorem k_ldc {index : Nat} {v : Int32} (hX : kOK K X own cc nL) (d : decode cc pc = .ok (.ldc index, 2)) (hc : Cond.constant own index v ∈ xTB) (kk : kG K X ws ce sl (pc + 2) lv (.int v :: st)) : kG K X ws ce sl pc lv st := by
  obtain ⟨p, l, e, R, s, m, args, below, meth, c, ce0, sl0, Q, A⟩ := X
  obtain ⟨hx, hb, hml, hown, hts, hA, hK, hst, hnw⟩ := hX
  intro H locs ls hP hD hS hv
  exact lv_ldc hx hb hown (hts _ hc) d (kk H locs ls hP hD hS hv)
theorem k_aload_n {k : Fin 4} {i x : Nat} (hX : kOK K X own cc nL) (d : decode cc pc = .ok (.aload_n k, 1)) (hi : (k : Nat) = i) (q : Nat) (hl : lv[q]? = some (i, .ref x)) (kk : kG K X ws ce sl (pc + 1) lv (.ref x :: st)) : kG K X ws ce sl pc lv st := by
  obtain ⟨p, l, e, R, s, m, args, below, meth, c, ce0, sl0, Q, A⟩ := X
  obtain ⟨hx, hb, hml, hown, hts, hA, hK, hst, hnw⟩ := hX
  intro H locs ls hP hD hS hv
  exact lv_aload_n hx hb d hi (lv_at hv q hl) (kk H locs ls hP hD hS hv)
theorem k_objInit {idx h0 : Nat} (hX : kOK K X own cc nL) (hR : kRm X fr lo mc ms) (hl : Cond.methodLink own idx Lib.objectInit ∈ xTB) (hi : Cond.instanceMethod Lib.objectInit ∈ xTB) (hc : Cond.code Lib.objectInit ⟨#[0xb1]⟩ 1 none ∈ xTB) (h1 : 1 ≤ fr) (h2 : (st.map fun v => v.category).sum + 12 ≤ lo) (d : decode cc pc = .ok (.invokespecial idx, 3)) (kk : kG K X ws ce sl (pc + 3) lv st) : kG K X ws ce sl pc lv (.ref h0 :: st) := by
  obtain ⟨p, l, e, R, s, m, args, below, meth, c, ce0, sl0, Q, A⟩ := X
  obtain ⟨hx, hb, hml, hown, hts, hA, hK, hst, hnw⟩ := hX
  obtain ⟨r1, r2, r3, r4⟩ := hR
  intro H locs ls hP hD hS hv
  exact W.objInit hx hb hown (hts _ hl) (hts _ hi) (hts _ hc) (g := F0 m pc ls (.ref h0 :: st)) rfl hv.1 rfl d (by omega) (by show 2 * 0 + _ + 12 ≤ _; omega) (kk H locs ls hP hD hS hv)
theorem k_newarr {atype : ArrayType} {n : Int32} {N : Nat} (i : Nat) {ty : FieldType} (hX : kOK K X own cc nL) (hR : kRm X fr lo mc ms) (hty : newarray.typeOf atype = ty) (hi : (xtys K)[i]? = some (xcy K i, ty)) (hra : ∀ (U : State) (cA : ClassId), va_RA U cA ty → U.vm.findClass ("[" ++ ty.toString) = some cA) (hdv : defaultValue ty = .int 0) (harr : Cond.arrayClass ty ∈ xTB) (hn : ¬ n < 0) (hN : n.toNatClampNeg = N) (hby : N * componentBytes ty ≤ 536870912) (hc : ce + 1 ≤ mc) (hs : sl + N ≤ ms) (d : decode cc pc = .ok (.newarray atype, 2))
    (kk : ∀ q, kG K X (ws ++ [(q, .inl (xcy K i, N, .inl (fun _ => 0)))]) (ce + 1) (sl + N) (pc + 2) lv (.ref q :: st)) : kG K X ws ce sl pc lv (.int n :: st) := by
  obtain ⟨p, l, e, R, s, m, args, below, meth, c, ce0, sl0, Q, A⟩ := X
  obtain ⟨hx, hb, hml, hown, hts, hA, hK, hst, hnw⟩ := hX
  obtain ⟨r1, r2, r3, r4⟩ := hR
  intro H locs ls hP hD hS hv
  refine va_newa hx hb (by rw [hty]; exact hts _ harr) hty hK hP hD hS hA (a0 := (N, .inl (fun _ => 0))) (fun cA => by rw [vp_cell_i, hdv]) hn hN hby (by omega) (by omega) d (fun q cA H1 hK1 hP1 hD1 hS1 => ?_)
  have e1 : (xtys K ++ [(cA, ty)])[(xtys K).length]? = some (cA, ty) := by simp
  have f1 := hra _ _ (hK1.2 _ _ e1).2
  have f2 := hra _ _ (hK.2 i _ hi).2
  cases f1.symm.trans f2
  exact kk q H1 locs ls hP1 hD1 hS1 hv
theorem k_newq {idx : Nat} {n : Int32} {N : Nat} (hX : kOK K X own cc nL) (hR : kRm X fr lo mc ms) (hl : Cond.classLink own idx "GrowingBook$State" ∈ xTB) (hn : ¬ n < 0) (hN : n.toNatClampNeg = N) (hby : N * 4 ≤ 536870912) (hc : ce + 1 ≤ mc) (hs : sl + N ≤ ms) (d : decode cc pc = .ok (.anewarray idx, 3))
    (kk : ∀ q, kG K X (ws ++ [(q, .inl (xcy K 3, N, .inr (.inr (.inr (.inr (fun _ => none))))))]) (ce + 1) (sl + N) (pc + 3) lv (.ref q :: st)) : kG K X ws ce sl pc lv (.int n :: st) := by
  obtain ⟨p, l, e, R, s, m, args, below, meth, c, ce0, sl0, Q, A⟩ := X
  obtain ⟨hx, hb, hml, hown, hts, hA, hK, hst, hnw⟩ := hX
  obtain ⟨r1, r2, r3, r4⟩ := hR
  intro H locs ls hP hD hS hv
  refine va_newq hx hb hown (hts _ hl) hnw.2.2 hK hP hD hS hA hn hN hby (by omega) (by omega) d (fun q cA H1 hK1 hP1 hD1 hS1 => ?_)
  have e1 : (xtys K ++ [(cA, FieldType.object "GrowingBook$State")])[(xtys K).length]? = some (cA, FieldType.object "GrowingBook$State") := by simp
  obtain ⟨_, _, _, _, _, f1⟩ := (hK1.2 _ _ e1).2
  obtain ⟨_, _, _, _, _, f2⟩ := (hK.2 3 _ rfl).2
  cases f1.symm.trans f2
  exact kk q H1 locs ls hP1 hD1 hS1 hv
theorem k_new {idx ci N : Nat} {C : String} {T : u_T} {fs : List Value} (ty : Nat → FieldType) (hX : kOK K X own cc nL) (hR : kRm X fr lo mc ms) (hin : ∀ w ∈ u_ws C T N, w ∈ xTB) (hty : ∀ k, k < N → parseFieldDescriptor (T k).2.2.1 = some (ty k)) (hl : Cond.classLink own idx C ∈ xTB) (hi : Cond.instantiable C N ∈ xTB) (hini : Cond.initialized C ∈ xTB) (hci : vwCl[ci]? = some (C, T, N)) (hfs : ∀ j, j < N → defaultValue (ty j) = vp_V fs j) (hc : ce + 1 ≤ mc) (hs : sl + N ≤ ms) (d : decode cc pc = .ok (.new idx, 3))
    (kk : ∀ q, kG K X (ws ++ [(q, .inr (ci, fs))]) (ce + 1) (sl + N) (pc + 3) lv (.ref q :: st)) : kG K X ws ce sl pc lv st := by
  obtain ⟨p, l, e, R, s, m, args, below, meth, c, ce0, sl0, Q, A⟩ := X
  obtain ⟨hx, hb, hml, hown, hts, hA, hK, hst, hnw⟩ := hX
  obtain ⟨r1, r2, r3, r4⟩ := hR
  intro H locs ls hP hD hS hv
  exact va_new hx hb hts hin ty hty hown (hts _ hl) (hts _ hi) (hts _ hini) hK hP hD hS hA hci hfs (by omega) (by omega) d (fun q H1 hP1 hD1 hS1 => kk q H1 locs ls hP1 hD1 hS1 hv)
theorem k_putF {idx ci N h0 : Nat} {C : String} {T : u_T} {fs : List Value} {v : Value} {ty : FieldType} {ws2 : va_W} (ty0 : Nat → FieldType) (hX : kOK K X own cc nL) (hI : kIn X) (hin : ∀ w ∈ u_ws C T N, w ∈ xTB) (hty : ∀ k, k < N → parseFieldDescriptor (T k).2.2.1 = some (ty0 k)) (hnm : ∀ a, a < N → ∀ b, b < N → a ≠ b → (T a).2.1 ≠ (T b).2.1) (q0 : Nat) (he : ws[q0]? = some (h0, .inr (ci, fs))) (hci : vwCl[ci]? = some (C, T, N)) (k : Nat) (hk : k < N) (hl : Cond.fieldLink own idx (T k).1 (T k).2.1 (T k).2.2.1 ∈ xTB) (hfin : (T k).2.2.2 = true) (hdecl : (T k).1 = own) (hd : parseFieldDescriptor (T k).2.2.1 = some ty) (hn : narrow ty v = v) (hfit : fits ty v = true) (hlen : k < fs.length) (d : decode cc pc = .ok (.putfield idx, 3)) (e9 : ws.set q0 (h0, .inr (ci, fs.set k v)) = ws2)
    (kk : kG K X ws2 ce sl (pc + 3) lv st) : kG K X ws ce sl pc lv (v :: .ref h0 :: st) := by
  obtain ⟨p, l, e, R, s, m, args, below, meth, c, ce0, sl0, Q, A⟩ := X
  obtain ⟨hx, hb, hml, hown, hts, hA, hK, hst, hnw⟩ := hX
  intro H locs ls hP hD hS hv
  subst e9
  exact va_putF hx hb hts hin ty0 hty hnm hown hK hP hD hS q0 he hci k hk (hts _ hl) (fun _ h9 => h9) hfin hI hdecl hd hn hfit hlen d (fun H1 locs1 hP1 hD1 hS1 => kk H1 locs1 ls hP1 hD1 hS1 hv)
theorem k_getF {idx ci N h0 : Nat} {C : String} {T : u_T} {fs : List Value} {v : Value} (hX : kOK K X own cc nL) (hin : ∀ w ∈ u_ws C T N, w ∈ xTB) (q0 : Nat) (he : ws[q0]? = some (h0, .inr (ci, fs))) (hci : vwCl[ci]? = some (C, T, N)) (k : Nat) (hk : k < N) (hl : Cond.fieldLink own idx (T k).1 (T k).2.1 (T k).2.2.1 ∈ xTB) (hv9 : fs[k]? = some v) (d : decode cc pc = .ok (.getfield idx, 3)) (kk : kG K X ws ce sl (pc + 3) lv (v :: st)) : kG K X ws ce sl pc lv (.ref h0 :: st) := by
  obtain ⟨p, l, e, R, s, m, args, below, meth, c, ce0, sl0, Q, A⟩ := X
  obtain ⟨hx, hb, hml, hown, hts, hA, hK, hst, hnw⟩ := hX
  intro H locs ls hP hD hS hv
  exact va_get hx hb hts hin hown hK hP q0 he hci k hk (hts _ hl) (fun _ h9 => h9) hv9 d (kk H locs ls hP hD hS hv)
theorem k_aast {a n v ci : Nat} {vs : List Value} {f : Nat → Option Nat} {i : Int32} {r : vw_C} {ws2 : va_W} (hX : kOK K X own cc nL) (q0 qk : Nat) (ha : ws[q0]? = some (a, .inl (xcy K 3, n, .inr (.inr (.inr (.inr f)))))) (hv9 : ws[qk]? = some (v, .inr (ci, vs))) (hci : vwCl[ci]? = some r) (hr : r.1 = "GrowingBook$State") (hin : vp_in i n) (d : decode cc pc = .ok (.aastore, 1)) (e9 : ws.set q0 (a, .inl (xcy K 3, n, .inr (.inr (.inr (.inr (va_up f i.toNatClampNeg (some v))))))) = ws2)
    (kk : kG K X ws2 ce sl (pc + 1) lv st) : kG K X ws ce sl pc lv (.ref v :: .int i :: .ref a :: st) := by
  obtain ⟨p, l, e, R, s, m, args, below, meth, c, ce0, sl0, Q, A⟩ := X
  obtain ⟨hx, hb, hml, hown, hts, hA, hK, hst, hnw⟩ := hX
  intro H locs ls hP hD hS hv
  subst e9
  exact va_astq hx hb hK hP hD hS q0 3 qk ci ha (by rw [hr]; rfl) hv9 hci hin d (fun H1 locs1 hP1 hD1 hS1 => kk H1 locs1 ls hP1 hD1 hS1 hv)
theorem k_getsF {idx : Nat} (hX : kOK K X own cc nL) (hF : xSL own idx "FIRST") (d : decode cc pc = .ok (.getstatic idx, 3)) (kk : kG K X ws ce sl (pc + 3) lv (.ref (xsa K 2) :: st)) : kG K X ws ce sl pc lv st := by
  obtain ⟨p, l, e, R, s, m, args, below, meth, c, ce0, sl0, Q, A⟩ := X
  obtain ⟨hx, hb, hml, hown, hts, hA, hK, hst, hnw⟩ := hX
  intro H locs ls hP hD hS hv
  rcases hF with hF | ⟨host, hF⟩
  · exact va_gets hx hb (xStt_Z hst.1 2 (by decide)).1 hS hown (hts _ hF) (fun _ h9 => h9) d (kk H locs ls hP hD hS hv)
  · exact va_getsN hx hb (xStt_Z hst.1 2 (by decide)).1 hS hown (xNw_use hnw.1 hF _) (fun _ h9 => h9) d (kk H locs ls hP hD hS hv)
theorem k_cast {idx a : Nat} {x : vp_A} (hX : kOK K X own cc nL) (hl : Cond.classLink own idx "[I" ∈ xTB) (q0 : Nat) (ha : ws[q0]? = some (a, .inl (xcy K 0, x))) (d : decode cc pc = .ok (.checkcast idx, 3)) (kk : kG K X ws ce sl (pc + 3) lv (.ref a :: st)) : kG K X ws ce sl pc lv (.ref a :: st) := by
  obtain ⟨p, l, e, R, s, m, args, below, meth, c, ce0, sl0, Q, A⟩ := X
  obtain ⟨hx, hb, hml, hown, hts, hA, hK, hst, hnw⟩ := hX
  intro H locs ls hP hD hS hv
  exact va_castA hx hb hown (hts _ hl) hP q0 ha ((hK.2 0 _ rfl).2 : va_RA s (xcy K 0) .int) d (kk H locs ls hP hD hS hv)
theorem k_clone {idx : Nat} (hX : kOK K X own cc nL) (hR : kRm X fr lo mc ms) (hl : Cond.methodLink own idx ⟨"[I", "clone", "()Ljava/lang/Object;"⟩ ∈ xTB) (hsm : Cond.sameMethod "[I" "java/lang/Object" "clone" "()Ljava/lang/Object;" ∈ xTB) (hnt : Cond.native ⟨"java/lang/Object", "clone", "()Ljava/lang/Object;"⟩ ∈ xTB) (hin : Cond.instanceMethod ⟨"java/lang/Object", "clone", "()Ljava/lang/Object;"⟩ ∈ xTB) (hsl : Cond.selects "[I" ⟨"[I", "clone", "()Ljava/lang/Object;"⟩ ⟨"java/lang/Object", "clone", "()Ljava/lang/Object;"⟩ ∈ xTB) (h1 : 1 ≤ fr) (h2 : (st.map fun v => v.category).sum + 14 ≤ lo) (hc : ce + 1 ≤ mc) (hs : sl + 3 ≤ ms) (d : decode cc pc = .ok (.invokevirtual idx, 3))
    (kk : ∀ q, kG K X (ws ++ [(q, .inl (xcy K 0, 3, .inl xFI0))]) (ce + 1) (sl + 3) (pc + 3) lv (.ref q :: st)) : kG K X ws ce sl pc lv (.ref (xsa K 2) :: st) := by
  obtain ⟨p, l, e, R, s, m, args, below, meth, c, ce0, sl0, Q, A⟩ := X
  obtain ⟨hx, hb, hml, hown, hts, hA, hK, hst, hnw⟩ := hX
  obtain ⟨r1, r2, r3, r4⟩ := hR
  intro H locs ls hP hD hS hv
  obtain ⟨cell, g1, g2, g3, g4, g5, g6⟩ := hst.2
  have hfc : s.vm.findClass "[I" = some (xcy K 0) := ((hK.2 0 _ rfl).2 : va_RA s (xcy K 0) .int)
  have hcc : cell.cls = xcy K 0 := Option.some.inj (g4.symm.trans hfc)
  have hHc : H[xsa K 2]? = some cell := by rw [hS.2.1 _ (Array.getElem?_eq_some_iff.mp g1).1 g6]; exact g1
  have hcellE : ({ cls := cell.cls, slots := cell.slots } : Cell) = vp_cell (xcy K 0) (3, .inl xFI0) := by
    rw [hcc, g5]
    rfl
  obtain ⟨c0, t0', f1, f2, f3⟩ := Cond.castable_spec (va_Nw.use (A := args) rfl hnw.2.1)
  cases hfc.symm.trans f1
  obtain ⟨-, kS, hkS, compS, hkindS⟩ := (hK.2 0 _ rfl).1 0 (fun _ => .null)
  intro T hT X
  obtain ⟨-, kA, hkA, comp, hkind⟩ := State.isArrayOf_alike X.warmed.alike ((hK.2 0 _ rfl).1 0 (fun _ => .null))
  obtain ⟨vm', X', st9⟩ := X.cloneArray hx hown (hts _ hl) (hts _ hsm) (hts _ hnt) (hts _ hin) (hts _ hsl) (a := xsa K 2) (cell := cell) (by rw [hT]; exact hHc) (fun k h => by rw [h] at g2; cases g2) g3 g4 f2 (by rw [hcc]; exact f3)
    (fun i v hv9 => by
      rw [hcc]
      have hk' : T.vm.classes[xcy K 0]? = some kA := hkA
      rw [g5] at hv9
      have hfv : fits .int v = true := by
        match i, hv9 with
        | 0, hv9 => cases hv9; rfl
        | 1, hv9 => cases hv9; rfl
        | 2, hv9 => cases hv9; rfl
        | i + 3, hv9 => simp at hv9
      simpa [State.fitsSlot, State.slotType?, hk', hkind] using hfv)
    (g := F0 m pc ls (.ref (xsa K 2) :: st)) rfl (by rw [hv.1]) rfl (by rw [hb]; exact d) (by omega) (by show 2 * 0 + _ + 14 ≤ _; omega) (by omega) (by rw [g5]; show sl + 3 ≤ _; omega) (hloader := by rw [hcc]; exact Vm.clonesLoader_of_array hkS hkindS)
  rw [hcellE, g5] at X'
  generalize hH1 : H.push (vp_cell (xcy K 0) (3, .inl xFI0)) = H1
  have e1 : H1[H.size]? = some (vp_cell (xcy K 0) (3, .inl xFI0)) := by rw [← hH1, Array.getElem?_push_size]
  have o1 : ∀ q : Nat, q < H.size → H1[q]? = H[q]? := fun q hq => by rw [← hH1, Array.getElem?_push, if_neg (Nat.ne_of_lt hq)]
  have z1 : H1.size = H.size + 1 := by rw [← hH1, Array.size_push]
  have hk : ∀ (k : Nat) (y : Nat × va_E), ws[k]? = some y → H1[y.1]? = H[y.1]? := fun k y hy => o1 y.1 ((hP k y hy).lt)
  obtain ⟨t, b1, b2⟩ := kk H.size H1 locs ls ((hP.kept hk).app (fun k y hy => by
      have hz : k < 1 := (List.getElem?_eq_some_iff.mp hy).1
      rw [show k = 0 by omega] at hy
      cases hy
      exact e1)) (hD.push hP rfl (hA _ hS.1)) ⟨Nat.le_trans hS.1 (by omega), fun y h1 h2 => (o1 y (Nat.lt_of_lt_of_le h1 hS.1)).trans (hS.2.1 y h1 h2), hS.2.2⟩ hv
    ((T.setVm vm').pushCell (vp_cell (xcy K 0) (3, .inl xFI0))) (by rw [← hH1, ← hT]; rfl) X'
  refine ⟨t, st9 t ?_, b2⟩
  rw [hcellE, hT]
  exact b1
end KG

/-! contracts of constructors -/
def kPre (K : xK) (h0 : Nat) (e0 : va_E) (sz : Nat) (U : State) : Prop := U.heap.size = sz ∧ va_P K.1 vwCl [(h0, e0)] U.heap ∧ va_K K.1 vwCl (xtys K) U ∧ kSt K (va_A [(h0, e0)] sz) U U.heap ∧ xNw U ∧ kW U
def kQ (K : xK) (h0 : Nat) (e0 : va_E) (sz : Nat) (P1 : va_W → Prop) : Array Value → State → Outcome → State → Prop := fun _ st oc t => oc = .returned none ∧ (∃ w1, P1 w1 ∧ va_P K.1 vwCl w1 t.heap ∧ va_D (va_A [(h0, e0)] sz) w1) ∧ va_F (va_A [(h0, e0)] sz) st t
def kMet (l : Launch) (K : xK) (y : MethodName) (b : ByteArray) (maxL : Nat) (fr lo mc ms h0 : Nat) (e0 : va_E) (sz : Nat) (P1 : va_W → Prop) : Prop :=
  Met l y (Cond.code y b maxL none :: xTB) ({ frames := fr, cells := mc, slots := ms, locals := lo }) (va_Pc [.ref h0] (kPre K h0 e0 sz)) (kQ K h0 e0 sz P1) mc ms (va_A [(h0, e0)] sz)
theorem kSt_moved {K : xK} {A : Nat → Prop} {u U : State} {H : Heap} (hvm : u.vm.Alike U.vm) (h : kSt K A u H) : kSt K A U H := ⟨xStt_moved hvm h.1, kFst_moved hvm h.2⟩
theorem kW_warm {s U : State} (hW : s.WarmedH U.vm) (h : kW s) : kW U := ⟨va_Nw.warmC hW h.1, va_AO.moved hW.alike h.2⟩
theorem kW_same {u U : State} (hvm : u.vm = U.vm) (hal : u.vm.Alike U.vm) (h : kW u) : kW U := ⟨va_Nw.same rfl hvm h.1, va_AO.moved hal h.2⟩
theorem kPre_blind {K : xK} {h0 sz : Nat} {e0 : va_E} {args : List Value} : FrameBlind (va_Pc args (kPre K h0 e0 sz)) := by
  intro a U g mk h
  obtain ⟨h1, h2, h3, h4, h5, h6, h7⟩ := h
  exact ⟨h1, h2, h3, va_K.moved (u := U) (U := U.calling g mk a) (Vm.Alike.refl U.vm) h4, kSt_moved (u := U) (U := U.calling g mk a) (Vm.Alike.refl U.vm) h5, xNw_same (u := U) (U := U.calling g mk a) rfl h6, kW_same (u := U) (U := U.calling g mk a) rfl (Vm.Alike.refl U.vm) h7⟩
theorem kMet_of {l : Launch} {K : xK} {y : MethodName} {b : ByteArray} {maxL fr lo mc ms h0 sz : Nat} {e0 : va_E} {P1 : va_W → Prop} (own : String) (hy : plainName y.cls = true) (hown : y.cls = own) (hyn : y.name = "<init>") (hmL : 1 ≤ maxL)
    (body : ∀ X, kOK K X own b maxL → kIn X → kRm X fr lo mc ms → (∀ ws ce sl pc lv, P1 ws → ce ≤ mc → sl ≤ ms → decode b pc = .ok (.return_, 1) → kG K X ws ce sl pc lv []) → kG K X [(h0, e0)] 0 0 0 [(0, .ref h0)] []) : kMet l K y b maxL fr lo mc ms h0 e0 sz P1 := by
  refine Met.ofW (cc := b) (maxL := maxL) (ret := none) hy rfl ?_
  intro p e s m args' below meth c s₁ B hml hv
  obtain ⟨rfl, hsz, hP, hK, hst, hnw, hkw⟩ := hv
  have hts := atoms_spec (ws := Cond.code y b maxL none :: xTB) B.pre
  have hown2 : s.vm.findClass y.cls = some m.cls := findClass_of_methodNamed B.named
  rw [hown] at hown2
  have hin : meth.name = "<init>" := ((name_of_methodNamed B.named B.method).1).trans hyn
  subst hsz
  rw [lg_entry_eq]
  have hD : va_D (va_A [(h0, e0)] s.heap.size) [(h0, e0)] := by
    refine ⟨fun i j p q hi hj _ => ?_, fun k q hk => va_A.in hk⟩
    have h1 : i < 1 := (List.getElem?_eq_some_iff.mp hi).1
    have h2 : j < 1 := (List.getElem?_eq_some_iff.mp hj).1
    omega
  refine body (p, l, e, _, s, m, [Value.ref h0].toArray, below, meth, c, 0, 0, MQ below (kQ K h0 e0 s.heap.size P1) [Value.ref h0].toArray s mc ms (va_A [(h0, e0)] s.heap.size), va_A [(h0, e0)] s.heap.size) ⟨B.exec, B.bytes, hml, hown2, fun w hw => hts w (List.mem_cons_of_mem _ hw), fun q h => Or.inr h, hK, hst, hnw, hkw⟩ hin ⟨Nat.le_refl _, Nat.le_refl _, Nat.le_refl _, Nat.le_refl _⟩ ?_ s.heap [] _ hP hD va_S.rf (by rw [hml]; exact lv_entry [.ref h0] hmL)
  intro ws ce sl pc lv hp hc hs hd H locs ls hP1 hD1 hS1 hv1
  refine W.widen (k := mc) (n := ms) hc hs ?_
  exact W.vret B.exec B.bytes B.returns (fun t ht hW => ⟨rfl, ⟨ws, hp, by rw [ht]; exact hP1, hD1⟩, hS1.F ht⟩) hS1.2.2 hd B.notSynchronized
def kCI (own : String) (idx : Nat) (y : MethodName) (b : ByteArray) (maxL : Nat) : Prop := xCB own idx y b maxL none 0 ∧ y.name = "<init>" ∧ Cond.instanceMethod y ∈ xTB
theorem va_nd_range (n : Nat) : va_nd (List.range n) = true := by
  have key : ∀ (l : List Nat), l.Nodup → va_nd l = true := by
    intro l
    induction l with
    | nil => intro _; rfl
    | cons a l ih =>
      intro h
      have h1 := List.nodup_cons.mp h
      simp only [va_nd]
      simp [h1.1, ih h1.2]
  exact key _ List.nodup_range
theorem k_init {K : xK} {X : xX} {own : String} {cc : ByteArray} {nL : Nat} {ws : va_W} {ce sl : Nat} {pc : Nat} {lv : List (Nat × Value)} {st : List Value} {fr0 lo0 mc0 ms0 : Nat} {y : MethodName} {bytes : ByteArray} {maxL fr lo mc ms idx h0 : Nat} {e0 : va_E} {P1 : va_W → Prop} (wr : va_W) (hX : kOK K X own cc nL) (hR : kRm X fr0 lo0 mc0 ms0) (hM : ∀ l sz, kMet l K y bytes maxL fr lo mc ms h0 e0 sz P1) (hC : kCI own idx y bytes maxL) (hfl : fr + 1 ≤ fr0 ∧ 8 + (maxL + 11) + lo ≤ lo0) (hcs : ce + mc ≤ mc0 ∧ sl + ms ≤ ms0) (hW : (st.map fun v => v.category).sum ≤ 8) (hws : ws = wr ++ [(h0, e0)]) (d : decode cc pc = .ok (.invokespecial idx, 3))
    (kk : ∀ w1, P1 w1 → kG K X (wr ++ w1) (ce + mc) (sl + ms) (pc + 3) lv st) : kG K X ws ce sl pc lv (.ref h0 :: st) := by
  obtain ⟨p, l, e, R, s, m, args, below, meth, c, ce0, sl0, Q, A⟩ := X
  obtain ⟨hx, hb, hml, hown, hts, hA, hK, hst, hnw, hkw⟩ := hX
  obtain ⟨r1, r2, r3, r4⟩ := hR
  obtain ⟨⟨c1, c2, c3, c4, c5, c6⟩, c7, c8⟩ := hC
  intro H locs ls hP hD hS hv
  subst hws
  have hisC : [wr.length].map (fun i => (wr ++ [(h0, e0)])[i]?) = [(h0, e0)].map some := by simp
  have hisR : (List.range wr.length).map (fun i => (wr ++ [(h0, e0)])[i]?) = wr.map some := by
    apply List.ext_getElem?
    intro i
    rw [List.getElem?_map, List.getElem?_map]
    by_cases hi : i < wr.length
    · rw [List.getElem?_range hi]
      simp only [Option.map_some, List.getElem?_append_left hi, List.getElem?_eq_getElem hi]
    · rw [List.getElem?_eq_none (by simp; omega), List.getElem?_eq_none (by omega)]
      rfl
  have hF := va_free (wc := [(h0, e0)]) hD hS hA [wr.length] hisC
  have hRR : fr + 1 ≤ R.frames ∧ 8 + (maxL + 11) + lo ≤ R.locals := ⟨by omega, by omega⟩
  have hPc : va_P K.1 vwCl [(h0, e0)] H := hP.sub (ws' := [(h0, e0)]) [wr.length] (by simp)
  have hpre : PreS s H (va_Pc [.ref h0] (kPre K h0 e0 H.size)) [.ref h0] := by
    refine ⟨kPre_blind, fun U hU hW9 => ?_⟩
    refine ⟨rfl, by rw [hU], by rw [hU]; exact hPc, va_K.moved hW9.alike hK, ?_, xNw_warm hW9 hnw, kW_warm hW9 hkw⟩
    rw [hU]
    refine kSt_moved hW9.alike ⟨xStt_narrow (xStt_kept hst.1 (fun a ha hn => hS.2.1 a ha hn)) hF, kFst_narrow (kFst_kept hst.2 (fun a ha hn => hS.2.1 a ha hn)) hF⟩
  have hrun : va_Run p l e R s m args below meth c H locs ce sl mc ms (F0 m pc ls (.ref h0 :: st)) st (kQ K h0 e0 H.size P1 [Value.ref h0].toArray) (va_A [(h0, e0)] H.size) := by
    rcases c1 with c1 | ⟨host, c1⟩
    · exact va_runI (ws := Cond.code y bytes maxL none :: xTB) (As := []) ⟨hx, hb, hml, hown, hts⟩ (hM l H.size) ⟨callB_of 0 hts (xTB_in c3) rfl rfl rfl (hts _ c2) (hts _ c1) ⟨c4, c5, c6⟩ hRR, c7, hts _ c8⟩ hpre rfl rfl (by rw [hv.1, hml]) rfl (by show 2 * 0 + _ ≤ 8; omega) d ⟨by omega, by omega⟩
    · exact va_runIN (ws := Cond.code y bytes maxL none :: xTB) (As := []) ⟨hx, hb, hml, hown, hts⟩ (hM l H.size) ⟨va_cnB 0 hts (xTB_in c3) rfl rfl rfl (hnw _ c1) (hts _ c2) ⟨c4, c5, c6⟩ hRR, c7, hts _ c8⟩ hpre rfl rfl (by rw [hv.1, hml]) rfl (by show 2 * 0 + _ ≤ 8; omega) d ⟨by omega, by omega⟩
  intro T hT X
  obtain ⟨v', st₀, t, T', L, h9, X', hL, e1, e2, ⟨hv9, ⟨w1, hp1, hw, hd1⟩, hz, hk⟩, st9⟩ := hrun T hT X
  cases hv9
  rw [h9] at hz hk
  rw [← e1] at hw hz hk
  obtain ⟨hP2, hD2⟩ := va_join (wr := wr) (w1 := w1) hP hD [wr.length] (List.range wr.length) hisC hisR (va_nd_range _) (by intro i hi hc; have := List.mem_range.mp hi; simp at hc; omega) hk hF hw hd1
  obtain ⟨t2, a1, b1⟩ := kk w1 hp1 T'.heap (locs ++ L) ls hP2 hD2 ⟨Nat.le_trans hS.1 hz, fun q h1 h2 => by rw [hk q (Nat.lt_of_lt_of_le h1 hS.1) (fun z => h2 (hF q z))]; exact hS.2.1 q h1 h2, fun q hq => by
      rcases List.mem_append.mp hq with h | h
      · exact hS.2.2 q h
      · exact hF _ (hL q h)⟩ hv T' rfl X'
  exact ⟨t2, st9 t2 a1, b1⟩
/-! between the two goals -/
def kX (X : xX) (k n : Nat) : xX := match X with
  | (p, l, e, R, s, m, args, below, meth, c, ce, sl, Q, A) => (p, l, e, R, s, m, args, below, meth, c, k, n, Q, A)
theorem xStt_K {K K' : xK} (h : xsa K' = xsa K) (hq : xxs K' = xxs K) {A : Nat → Prop} {U : State} {H : Heap} (hs : xStt K A U H) : xStt K' A U H := by
  unfold xStt xrs at hs ⊢
  rw [h, hq]
  exact hs
theorem k_toG {K K' : xK} {X : xX} {own : String} {cc : ByteArray} {nL : Nat} {ws : va_W} {ce sl : Nat} {pc : Nat} {lv : List (Nat × Value)} {st : List Value} {S : xSt} (hX : kOK K X own cc nL) (hws : ws = xws K' S) (hk : K'.1 = K.1 ∧ xcy K' = xcy K ∧ xsa K' = xsa K ∧ xxs K' = xxs K) (hvc : xVC (xvl K')) (kk : xOK K' (kX X ce sl) own cc nL → xG K' (kX X ce sl) S pc lv st) : kG K X ws ce sl pc lv st := by
  obtain ⟨p, l, e, R, s, m, args, below, meth, c, ce0, sl0, Q, A⟩ := X
  obtain ⟨hx, hb, hml, hown, hts, hA, hK, hst, hnw, hkw⟩ := hX
  intro H locs ls hP hD hS hv
  subst hws
  have hA2 : ∀ t o, (t, o) ∈ xvl K' → A (xad K' t o) := by
    intro t o h
    obtain ⟨k, -, hk2⟩ := xws_at (S := S) h
    exact hD.2 k _ hk2
  have ht : xtys K' = xtys K := by unfold xtys; rw [hk.2.1]
  refine kk ⟨hx, hb, hml, hown, hts, hA2, xStt_K hk.2.2.1 hk.2.2.2 hst.1, hvc, hnw⟩ H locs ls ⟨by rw [hk.1]; exact hP, by rw [hk.1, ht]; exact hK, ⟨hD.1, fun _ _ _ => trivial⟩⟩ hS hv
theorem k_ofG {K K' : xK} {X : xX} {own : String} {cc : ByteArray} {nL : Nat} {ce sl : Nat} {pc : Nat} {lv : List (Nat × Value)} {st : List Value} {S : xSt} (hX : xOK K' (kX X ce sl) own cc nL) (hk : K'.1 = K.1) (kk : kG K X (xws K' S) ce sl pc lv st) : xG K' (kX X ce sl) S pc lv st := by
  obtain ⟨p, l, e, R, s, m, args, below, meth, c, ce0, sl0, Q, A⟩ := X
  obtain ⟨hx, hb, hml, hown, hts, hA, hst, hvc⟩ := hX
  intro H locs ls wd hS hv
  exact kk H locs ls (by rw [← hk]; exact wd.1) (xWd_A wd.2.2 hA) hS hv
theorem kRm_x {X : xX} {fr lo mc ms k n : Nat} (h : kRm X fr lo mc ms) (h1 : k ≤ mc) (h2 : n ≤ ms) : xRm (kX X k n) fr lo := by
  obtain ⟨p, l, e, R, s, m, args, below, meth, c, ce0, sl0, Q, A⟩ := X
  exact ⟨h.1, h.2.1, Nat.le_trans h1 h.2.2.1, Nat.le_trans h2 h.2.2.2⟩
