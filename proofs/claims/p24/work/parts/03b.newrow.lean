/-! rows of ints that a method makes for itself: the world grows -/
theorem W_weaken {p : Program} {l : Launch} {e : Env} {R : Room} {s : State} {m : MethodId} {args : Array Value} {below : List Frame} {meth : Method} {c : Code} {H : Heap} {locs locs2 : List Loc} {ce sl : Nat} {Q : State → Prop} {g : JFrame} (h : ∀ y ∈ locs, y.base < s.heap.size → y ∈ locs2) (kk : W p l e R s m args below meth c H locs2 ce sl Q g) : W p l e R s m args below meth c H locs ce sl Q g :=
  fun T hT X => kk T hT { X with same := X.same.weaken h (Nat.le_refl _) (Nat.le_refl _) }
def xEx (K K1 : xK) (j : Nat) : Prop := K1.1 = K.1 ∧ xcy K1 = xcy K ∧ xsa K1 = xsa K ∧ xxs K1 = xxs K ∧ xvl K1 = xvl K ++ [(33, j)] ∧ ∀ t o, ¬ (t = 33 ∧ o = j) → xad K1 t o = xad K t o
theorem xEx_r {K K1 : xK} {j t o : Nat} (h : xEx K K1 j) (ht : ¬ (t = 33 ∧ o = j)) : xr K t o = xr K1 t o := by
  show Value.ref _ = Value.ref _
  rw [h.2.2.2.2.2 t o ht]
theorem xEx_in {K K1 : xK} {j t o : Nat} (h : xEx K K1 j) (hv : (t, o) ∈ xvl K) : (t, o) ∈ xvl K1 := by
  rw [h.2.2.2.2.1]
  exact List.mem_append_left _ hv
theorem xEx_new {K K1 : xK} {j : Nat} (h : xEx K K1 j) : (33, j) ∈ xvl K1 := by
  rw [h.2.2.2.2.1]
  exact List.mem_append_right _ List.mem_cons_self
theorem xEx_no {K K1 : xK} {j i : Nat} (h : xEx K K1 j) (hn : (33, i) ∉ xvl K) (hi : ¬ i = j) : (33, i) ∉ xvl K1 := by
  rw [h.2.2.2.2.1]
  intro q
  rcases List.mem_append.mp q with q | q
  · exact hn q
  · have := List.mem_singleton.mp q
    exact hi (congrArg Prod.snd this)
theorem xE_ex {K K1 : xK} {j : Nat} (h : xEx K K1 j) (f : Nat → Int32) (t o : Nat) : xE K1 f t o = xE K f t o := by
  obtain ⟨-, hc, -, -, -, ha⟩ := h
  have hd : ∀ t o, ¬ t = 33 → xr K1 t o = xr K t o := fun t o q => by
    show Value.ref _ = Value.ref _
    rw [ha t o (fun z => q z.1)]
  have hs : ∀ o, xad K1 4 o = xad K 4 o := fun o => ha 4 o (fun z => absurd z.1 (by decide))
  match t with
  | 0 => simp only [xE, xfs, hd 10 _ (by decide), hd 11 _ (by decide), hd 12 _ (by decide), hd 13 _ (by decide)]
  | 1 => simp only [xE, xfs, hd 14 _ (by decide)]
  | 2 => simp only [xE, xfs, hd 15 _ (by decide), hd 16 _ (by decide), hd 17 _ (by decide), hd 18 _ (by decide)]
  | 3 => simp only [xE, xfs, hd 19 _ (by decide), hd 20 _ (by decide), hd 21 _ (by decide)]
  | 4 => simp only [xE, xfs, hd 22 _ (by decide), hd 23 _ (by decide), hd 24 _ (by decide)]
  | 5 => simp only [xE, xfs, hd 0 _ (by decide), hd 25 _ (by decide), hd 26 _ (by decide), hd 27 _ (by decide), hd 28 _ (by decide), hd 29 _ (by decide)]
  | 6 => simp only [xE, xfs, hd 1 _ (by decide), hd 2 _ (by decide), hd 3 _ (by decide), hd 4 _ (by decide), hd 5 _ (by decide), hd 30 _ (by decide), hd 31 _ (by decide), hd 32 _ (by decide)]
  | 7 => simp only [xE, xfs]
  | 8 => simp only [xE, hc]
  | 9 => simp only [xE, hc]
  | 10 => simp only [xE, hc]
  | 11 => simp only [xE, hc]
  | 12 => simp only [xE, hc]
  | 13 => simp only [xE, hc]
  | 14 => simp only [xE, hc, hs]
  | 15 => simp only [xE, hc]
  | 16 => simp only [xE, hc]
  | 17 => simp only [xE, hc]
  | 18 => simp only [xE, hc]
  | 19 => simp only [xE, hc]
  | 20 => simp only [xE, hc]
  | 21 => simp only [xE, hc]
  | 22 => simp only [xE, hc]
  | 23 => simp only [xE, hc]
  | 24 => simp only [xE, hc]
  | 25 => simp only [xE, hc]
  | 26 => simp only [xE, hc]
  | 27 => simp only [xE, hc]
  | 28 => simp only [xE, hc]
  | 29 => simp only [xE, hc]
  | 30 => simp only [xE, hc, hs]
  | 31 => simp only [xE, hc]
  | 32 => simp only [xE, hc]
  | 33 => simp only [xE, hc]
  | n + 34 => simp only [xE, hc]
theorem xVC_app {vl : List (Nat × Nat)} {j : Nat} (h : xVC vl) : xVC (vl ++ [(33, j)]) := by
  obtain ⟨h0, h1, h2, h3, h4, h5, h6, h7, h8, h9, h10, h11, h12, h13, h14, h15, h16, h17, h18, h19, h20, h21, h22, h23, h24, h25, h26, h27, h28, h29, h30, h31, h32, h33⟩ := h
  have hx : ∀ {t o : Nat}, (t, o) ∈ vl ++ [(33, j)] → ¬ t = 33 → (t, o) ∈ vl := by
    intro t o q ht
    rcases List.mem_append.mp q with q | q
    · exact q
    · exact absurd (congrArg Prod.fst (List.mem_singleton.mp q)) ht
  exact ⟨fun o q => List.mem_append_left _ (h0 o (hx q (by decide))), fun o q => List.mem_append_left _ (h1 o (hx q (by decide))), fun o q => List.mem_append_left _ (h2 o (hx q (by decide))), fun o q => List.mem_append_left _ (h3 o (hx q (by decide))), fun o q => List.mem_append_left _ (h4 o (hx q (by decide))), fun o q => List.mem_append_left _ (h5 o (hx q (by decide))), fun o q => List.mem_append_left _ (h6 o (hx q (by decide))), fun o q => List.mem_append_left _ (h7 o (hx q (by decide))), fun o q => List.mem_append_left _ (h8 o (hx q (by decide))), fun o q => List.mem_append_left _ (h9 o (hx q (by decide))), fun o q => List.mem_append_left _ (h10 o (hx q (by decide))), fun o q => List.mem_append_left _ (h11 o (hx q (by decide))), fun o q => List.mem_append_left _ (h12 o (hx q (by decide))), fun o q => List.mem_append_left _ (h13 o (hx q (by decide))), fun o q => List.mem_append_left _ (h14 o (hx q (by decide))), fun o q => List.mem_append_left _ (h15 o (hx q (by decide))), fun o q => List.mem_append_left _ (h16 o (hx q (by decide))), fun o q => List.mem_append_left _ (h17 o (hx q (by decide))), fun o q => List.mem_append_left _ (h18 o (hx q (by decide))), fun o q => List.mem_append_left _ (h19 o (hx q (by decide))), fun o q => List.mem_append_left _ (h20 o (hx q (by decide))), fun q => List.mem_append_left _ (h21 (hx q (by decide))), fun q => List.mem_append_left _ (h22 (hx q (by decide))), fun q => List.mem_append_left _ (h23 (hx q (by decide))), fun q => List.mem_append_left _ (h24 (hx q (by decide))), fun q => List.mem_append_left _ (h25 (hx q (by decide))), fun q => List.mem_append_left _ (h26 (hx q (by decide))), fun q => List.mem_append_left _ (h27 (hx q (by decide))), fun q => List.mem_append_left _ (h28 (hx q (by decide))), fun q => List.mem_append_left _ (h29 (hx q (by decide))), fun q => List.mem_append_left _ (h30 (hx q (by decide))), fun q => List.mem_append_left _ (h31 (hx q (by decide))), fun i hi q => List.mem_append_left _ (h32 i hi (hx q (by decide))), fun i hi q => List.mem_append_left _ (h33 i hi (hx q (by decide)))⟩
theorem xws_ex {K K1 : xK} {j : Nat} (h : xEx K K1 j) (hn : (33, j) ∉ xvl K) (S : xSt) : xws K1 S = xws K S ++ [(xad K1 33 j, .inl (xcy K 0, 64, .inl (S 33 j)))] := by
  unfold xws
  rw [h.2.2.2.2.1, List.map_append]
  congr 1
  · refine List.map_congr_left (fun q hq => ?_)
    rw [xE_ex h, h.2.2.2.2.2 q.1 q.2 (fun z => hn (by
      obtain ⟨a, b⟩ := q
      obtain ⟨z1, z2⟩ := z
      cases z1
      cases z2
      exact hq))]
  · show [(xad K1 33 j, xE K1 (S 33 j) 33 j)] = _
    rw [xE_ex h]
    rfl
theorem xtys_ex {K K1 : xK} {j : Nat} (h : xEx K K1 j) : xtys K1 = xtys K := by unfold xtys; rw [h.2.1]
theorem xWd_ex {K K1 : xK} {j : Nat} (h : xEx K K1 j) (hn : (33, j) ∉ xvl K) {S : xSt} {U : State} {H : Heap} (w : xWd K1 S U H) : xWd K S U H := by
  obtain ⟨w1, w2, w3⟩ := w
  rw [xws_ex h hn] at w1 w3
  rw [h.1] at w1
  rw [h.1, xtys_ex h] at w2
  have hap : ∀ (k : Nat) (q : Nat × va_E), (xws K S)[k]? = some q → (xws K S ++ [(xad K1 33 j, .inl (xcy K 0, 64, .inl (S 33 j)))])[k]? = some q := fun k q hk => by
    rw [List.getElem?_append_left (List.getElem?_eq_some_iff.mp hk).1]
    exact hk
  exact ⟨fun k q hk => w1 k q (hap k q hk), w2, ⟨fun i k p q hi hk => w3.1 i k p q (hap i p hi) (hap k q hk), fun _ _ _ => trivial⟩⟩
/-- the store that a caller sees: rows that were made for a call are gone -/
def xrst (S0 S : xSt) : xSt := fun t o => if t = 33 then S0 t o else S t o
theorem xrst_Wd {K : xK} (hn : ∀ o, (33, o) ∉ xvl K) (S0 S : xSt) {U : State} {H : Heap} (w : xWd K S U H) : xWd K (xrst S0 S) U H := by
  have he : xws K (xrst S0 S) = xws K S := by
    unfold xws
    refine List.map_congr_left (fun q hq => ?_)
    have : xrst S0 S q.1 q.2 = S q.1 q.2 := if_neg (fun z => hn q.2 (by
      obtain ⟨a, b⟩ := q
      cases z
      exact hq))
    rw [this]
  obtain ⟨w1, w2, w3⟩ := w
  exact ⟨by rw [he]; exact w1, w2, by rw [he]; exact w3⟩
def xMN (K0 K : xK) (ρ : xSt → xSt) (X : xX) (out : xR) (rt : Option FieldType) (rc rs : Nat) : Prop := match X with
  | (p, l, e, R, s, m, args, below, meth, c, ce, sl, Q, A) => (∃ mc ms, Q = MQ below (xQ K0 out) args s mc ms (xA K0) ∧ ce + rc ≤ mc ∧ sl + rs ≤ ms ∧ mc ≤ R.cells ∧ ms ≤ R.slots) ∧ A = (fun q => xA K0 q ∨ s.heap.size ≤ q) ∧ meth.sig.returnType = rt ∧ meth.locks = false ∧ ∀ S U H, xWd K S U H → xWd K0 (ρ S) U H
def kA (X : xX) (k n : Nat) : xX := match X with
  | (p, l, e, R, s, m, args, below, meth, c, ce, sl, Q, A) => (p, l, e, R, s, m, args, below, meth, c, ce + k, sl + n, Q, A)
theorem xOK_kA {K : xK} {X : xX} {own : String} {cc : ByteArray} {nL : Nat} (k n : Nat) (h : xOK K X own cc nL) : xOK K (kA X k n) own cc nL := by
  obtain ⟨p, l, e, R, s, m, args, below, meth, c, ce, sl, Q, A⟩ := X
  exact h
theorem xMN_kA {K0 K : xK} {ρ : xSt → xSt} {X : xX} {out : xR} {rt : Option FieldType} {rc rs k n rc2 rs2 : Nat} (h : xMN K0 K ρ X out rt rc rs) (h1 : k + rc2 ≤ rc) (h2 : n + rs2 ≤ rs) : xMN K0 K ρ (kA X k n) out rt rc2 rs2 := by
  obtain ⟨p, l, e, R, s, m, args, below, meth, c, ce, sl, Q, A⟩ := X
  obtain ⟨⟨mc, ms, a1, a2, a3, a4, a5⟩, h9⟩ := h
  exact ⟨⟨mc, ms, a1, by omega, by omega, a4, a5⟩, h9⟩
theorem xRm_kA {K0 K : xK} {ρ : xSt → xSt} {X : xX} {out : xR} {rt : Option FieldType} {rc rs k n fr lo : Nat} (hM : xMN K0 K ρ X out rt rc rs) (hR : xRm X fr lo) (h1 : k ≤ rc) (h2 : n ≤ rs) : xRm (kA X k n) fr lo := by
  obtain ⟨p, l, e, R, s, m, args, below, meth, c, ce, sl, Q, A⟩ := X
  obtain ⟨⟨mc, ms, a1, a2, a3, a4, a5⟩, h9⟩ := hM
  obtain ⟨r1, r2, r3, r4⟩ := hR
  exact ⟨r1, r2, show ce + k ≤ R.cells by omega, show sl + n ≤ R.slots by omega⟩
def xMetN (l : Launch) (K : xK) (y : MethodName) (b : ByteArray) (maxL : Nat) (ret : Option FieldType) (fr lo mc ms : Nat) (S : xSt) (args : List Value) (out : xR) : Prop :=
  Met l y (Cond.code y b maxL ret :: xTB) ({ frames := fr, cells := mc, slots := ms, locals := lo }) (va_Pc args (xPre K S)) (xQ K out) mc ms (xA K)
theorem va_Z_new {C n d : String} {v : Value} {A : Nat → Prop} {U : State} {H : Heap} (h : va_Z C n d v A U H) : va_Z C n d v (fun q => A q ∨ H.size ≤ q) U H := by
  obtain ⟨cf, kf, fi, f, a, cell, h1, h2, h3, h4, h5, h6, h7, h8⟩ := h
  exact ⟨cf, kf, fi, f, a, cell, h1, h2, h3, h4, h5, h6, h7, fun z => z.elim h8 (fun q => absurd (Array.getElem?_eq_some_iff.mp h5).1 (Nat.not_lt.mpr q))⟩
theorem va_T_new {ty : FieldType} {t N : Nat} {f : Nat → Value} {A : Nat → Prop} {U : State} {H : Heap} (h : va_T ty t N f A U H) : va_T ty t N f (fun q => A q ∨ H.size ≤ q) U H := by
  obtain ⟨cell, h1, h2, h3, h4, h5, h6, h7⟩ := h
  exact ⟨cell, h1, h2, h3, h4, h5, h6, fun z => z.elim h7 (fun q => absurd (Array.getElem?_eq_some_iff.mp h1).1 (Nat.not_lt.mpr q))⟩
theorem xStt_new {K : xK} {A : Nat → Prop} {U : State} {H : Heap} (h : xStt K A U H) : xStt K (fun q => A q ∨ H.size ≤ q) U H := by
  obtain ⟨a1, a2, b1, b2, c1, c2, c3⟩ := h
  exact ⟨va_Z_new a1, va_T_new a2, va_Z_new b1, va_T_new b2, va_Z_new c1, va_T_new c2, va_T_new c3⟩
theorem xMetN_of {l : Launch} {K : xK} {y : MethodName} {b : ByteArray} {maxL : Nat} {ret : Option FieldType} {fr lo mc ms : Nat} {S : xSt} {args : List Value} {out : xR} (own : String) (ρ : xSt → xSt) (hy : plainName y.cls = true) (hown : y.cls = own) (hvc : xVC (xvl K)) (hρ : ∀ S U H, xWd K S U H → xWd K (ρ S) U H) (hargs : (lg_sl args).length ≤ maxL)
    (body : ∀ X, xOK K X own b maxL → xMN K K ρ X out ret mc ms → xRm X fr lo → xG K X S 0 (lv_args 0 args) []) : xMetN l K y b maxL ret fr lo mc ms S args out := by
  refine Met.ofW (cc := b) (maxL := maxL) (ret := ret) hy rfl ?_
  intro p e s m args' below meth c s₁ B hml hv
  obtain ⟨rfl, hwd, hst, hnw⟩ := hv
  have hts := atoms_spec (ws := Cond.code y b maxL ret :: xTB) B.pre
  have hown2 : s.vm.findClass y.cls = some m.cls := findClass_of_methodNamed B.named
  rw [hown] at hown2
  rw [lg_entry_eq]
  exact body (p, l, e, _, s, m, args.toArray, below, meth, c, 0, 0, MQ below (xQ K out) args.toArray s mc ms (xA K), fun q => xA K q ∨ s.heap.size ≤ q) ⟨B.exec, B.bytes, hml, hown2, fun w hw => hts w (List.mem_cons_of_mem _ hw), fun t o h => Or.inl ⟨t, o, h, rfl⟩, xStt_new hst, hvc, hnw⟩ ⟨⟨mc, ms, rfl, by omega, by omega, Nat.le_refl _, Nat.le_refl _⟩, rfl, B.returns, B.notSynchronized, hρ⟩ ⟨Nat.le_refl _, Nat.le_refl _, Nat.zero_le _, Nat.zero_le _⟩ s.heap [] _ hwd va_S.rf (by rw [hml]; exact lv_entry args hargs)
theorem x_callN {p : Program} {l : Launch} {e : Env} {R : Room} {s : State} {m : MethodId} {args : Array Value} {below : List Frame} {meth : Method} {c : Code} {H : Heap} {locs : List Loc} {ce sl mc ms : Nat} {Q : State → Prop} {A0 : Nat → Prop} {K : xK} {S1 : xSt} {v : Option Value} {pc : Nat} {ls : Array Slot} {st0 rest : List Value} {a : Array Value}
    (hr : va_Run p l e R s m args below meth c H locs ce sl mc ms (F0 m pc ls st0) rest (xQ K (S1, v) a) (xA K)) (hS : va_S A0 s.heap H locs) (hA : ∀ t o, (t, o) ∈ xvl K → A0 (xad K t o))
    (kk : ∀ (H1 : Heap) (locs1 : List Loc), xWd K S1 s H1 → va_S A0 s.heap H1 locs1 → W p l e R s m args below meth c H1 locs1 (ce + mc) (sl + ms) Q (F0 m (pc + 3) ls (v.toList ++ rest))) : W p l e R s m args below meth c H locs ce sl Q (F0 m pc ls st0) := by
  intro T hT X
  obtain ⟨v', st₀, t, T', L, h0, X', hL, e1, e2, ⟨hv, hw, hz, hk⟩, st⟩ := hr T hT X
  cases hv
  rw [h0] at hz hk
  have hAA : ∀ q, xA K q → A0 q := by rintro q ⟨t, o, h, rfl⟩; exact hA t o h
  have hal : s.vm.Alike t.vm := by rw [← e2]; exact X'.warmed.alike
  obtain ⟨t2, a1, b1⟩ := kk T'.heap (locs ++ L) (by rw [e1]; exact xWd_moved hal.symm hw)
    ⟨Nat.le_trans hS.1 (by rw [e1]; exact hz), fun q h1 h2 => by rw [e1, hk q (Nat.lt_of_lt_of_le h1 hS.1) (fun z => h2 (hAA q z))]; exact hS.2.1 q h1 h2, fun q hq => by
      rcases List.mem_append.mp hq with h | h
      · exact hS.2.2 q h
      · exact hAA _ (hL q h)⟩ T' rfl X'
  exact ⟨t2, st t2 a1, b1⟩
section XN
variable {K K0 : xK} {X : xX} {own : String} {cc : ByteArray} {nL : Nat} {S : xSt} {pc : Nat} {lv : List (Nat × Value)} {st : List Value}
theorem g_callN {y : MethodName} {bytes : ByteArray} {maxL fr lo mc ms n idx : Nat} {ret : Option FieldType} {As stk st2 : List Value} {S1 : xSt} {v : Option Value} (hX : xOK K X own cc nL) {fr0 lo0 : Nat} (hR : xRm X fr0 lo0) (hR2 : xRm (kA X mc ms) fr0 lo0) (hM : ∀ l, xMetN l K y bytes maxL ret fr lo mc ms S As (S1, v)) (hC : xCS own idx y bytes maxL ret n)
    (hn : As.length = n) (hfl : fr + 1 ≤ fr0 ∧ 8 + (maxL + 11) + lo ≤ lo0) (hstk : stk = As.reverse ++ st) (hst2 : v.toList ++ st = st2) (hW : (st.map fun v => v.category).sum ≤ 8) (d : decode cc pc = .ok (.invokestatic idx, 3)) (kk : xG K (kA X mc ms) S1 (pc + 3) lv st2) : xG K X S pc lv stk := by
  obtain ⟨p, l, e, R, s, m, args, below, meth, c, ce, sl, Q, A⟩ := X
  obtain ⟨hx, hb, hml, hown, hts, hA, hst, hvc⟩ := hX
  obtain ⟨r1, r2, r3, r4⟩ := hR
  obtain ⟨-, -, r5, r6⟩ := hR2
  obtain ⟨⟨c1, c2, c3, c4, c5, c6⟩, c7⟩ := hC
  intro H locs ls wd hS hv
  subst hstk
  subst hst2
  have hRR : fr + 1 ≤ R.frames ∧ 8 + (maxL + 11) + lo ≤ R.locals := ⟨by omega, by omega⟩
  have hpv : PreS s H (va_Pc As (xPre K S)) As := ⟨xPre_blind, x_pre wd hS hA hst hvc.2 As⟩
  refine x_callN (v := v) (S1 := S1) (mc := mc) (ms := ms) (a := As.toArray) ?_ hS hA (fun H1 locs1 w1 hS1 => kk H1 locs1 ls w1 hS1 hv)
  rcases c1 with c1 | ⟨host, c1⟩
  · exact va_runS (ws := Cond.code y bytes maxL ret :: xTB) (As := As) ⟨hx, hb, hml, hown, hts⟩ (hM l) ⟨callB_of n hts (xTB_in c3) rfl rfl rfl (hts _ c2) (hts _ c1) ⟨c4, c5, c6⟩ hRR, hts _ c7⟩ hpv rfl hn (by rw [hv.1, hml]) rfl (by show 2 * 0 + _ ≤ 8; omega) d ⟨r5, r6⟩
  · exact va_runSN (ws := Cond.code y bytes maxL ret :: xTB) (As := As) ⟨hx, hb, hml, hown, hts⟩ (hM l) ⟨va_cnB n hts (xTB_in c3) rfl rfl rfl (hvc.2 _ c1) (hts _ c2) ⟨c4, c5, c6⟩ hRR, hts _ c7, trivial⟩ hpv rfl hn (by rw [hv.1, hml]) rfl (by show 2 * 0 + _ ≤ 8; omega) d ⟨r5, r6⟩
theorem g_newa {j : Nat} {ρ : xSt → xSt} {out : xR} {rt : Option FieldType} {rc rs fr lo : Nat} {S1 : xSt} (rc2 rs2 : Nat) (hX : xOK K X own cc nL) (hM : xMN K0 K ρ X out rt rc rs) (hR : xRm X fr lo) (hn : (33, j) ∉ xvl K) (h1 : 1 + rc2 ≤ rc) (h2 : 64 + rs2 ≤ rs) (harr : Cond.arrayClass .int ∈ xTB) (e9 : xua S 33 j (fun _ => 0) = S1) (d : decode cc pc = .ok (.newarray .int, 2))
    (kk : ∀ (K1 : xK), xEx K K1 j → xOK K1 (kA X 1 64) own cc nL → xMN K0 K1 ρ (kA X 1 64) out rt rc2 rs2 → xRm (kA X 1 64) fr lo → xG K1 (kA X 1 64) S1 (pc + 2) lv (xr K1 33 j :: st)) : xG K X S pc lv (.int 64 :: st) := by
  have hM2 := xMN_kA (k := 1) (n := 64) (rc2 := rc2) (rs2 := rs2) hM h1 h2
  have hR2 := xRm_kA (k := 1) (n := 64) hM hR (by omega) (by omega)
  obtain ⟨p, l, e, R, s, m, args, below, meth, c, ce, sl, Q, A⟩ := X
  obtain ⟨hx, hb, hml, hown, hts, hA, hst, hvc⟩ := hX
  obtain ⟨hQ, hA0, hr1, hr2, hρ⟩ := hM2
  obtain ⟨r1, r2, r3, r4⟩ := hR2
  have r3 : ce + 1 ≤ R.cells := r3
  have r4 : sl + 64 ≤ R.slots := r4
  have hAn : ∀ q, s.heap.size ≤ q → A q := fun q hq => by rw [hA0]; exact Or.inr hq
  intro H locs ls wd hS hv
  refine va_newa (atype := .int) (ty := .int) hx hb (hts _ harr) rfl wd.2.1 wd.1 (xWd_A wd.2.2 hA) hS hAn (a0 := (64, .inl (fun _ => 0))) (fun cA => by rw [vp_cell_i]; rfl) (by decide) (N' := 64) rfl (by decide) r3 r4 d (fun q cA H1 hK1 hP1 hD1 hS1 => ?_)
  have e1 : (xtys K ++ [(cA, FieldType.int)])[(xtys K).length]? = some (cA, FieldType.int) := by simp
  have f1 : s.vm.findClass ("[" ++ FieldType.int.toString) = some cA := (hK1.2 _ _ e1).2
  have f2 : s.vm.findClass ("[" ++ FieldType.int.toString) = some (xcy K 0) := (wd.2.1.2 0 _ rfl).2
  cases f1.symm.trans f2
  obtain ⟨K1, hK1e⟩ : ∃ K1 : xK, K1 = (K.1, fun t o => if t = 33 ∧ o = j then q else xad K t o, xvl K ++ [(33, j)], xcy K, xsa K, xxs K) := ⟨_, rfl⟩
  have hE : xEx K K1 j := by
    subst hK1e
    exact ⟨rfl, rfl, rfl, rfl, rfl, fun t o z => if_neg z⟩
  have hq : xad K1 33 j = q := by
    subst hK1e
    exact if_pos ⟨rfl, rfl⟩
  have hws : xws K S ++ [(q, .inl (xcy K 0, 64, .inl (fun _ => 0)))] = xws K1 S1 := by
    rw [xws_ex hE hn, hq, ← e9, xua_s]
    congr 1
    unfold xws
    refine List.map_congr_left (fun z hz => ?_)
    rw [xua_n _ _ (fun c => hn (by
      obtain ⟨a, b⟩ := z
      obtain ⟨c1, c2⟩ := c
      cases c1
      cases c2
      exact hz))]
  rw [hws] at hP1 hD1
  have hOK1 : xOK K1 (p, l, e, R, s, m, args, below, meth, c, ce + 1, sl + 64, Q, A) own cc nL := by
    refine ⟨hx, hb, hml, hown, hts, fun t o hto => ?_, ?_, ?_, hvc.2⟩
    · obtain ⟨k, -, hk2⟩ := xws_at (S := S1) hto
      exact hD1.2 k _ hk2
    · unfold xStt xrs at hst ⊢
      rw [hE.2.2.1, hE.2.2.2.1]
      exact hst
    · rw [hE.2.2.2.2.1]
      exact xVC_app hvc.1
  have hgo := kk K1 hE hOK1 ⟨hQ, hA0, hr1, hr2, fun S9 U9 H9 w9 => hρ S9 U9 H9 (xWd_ex hE hn w9)⟩ ⟨r1, r2, r3, r4⟩ H1 locs ls ⟨by rw [hE.1]; exact hP1, by rw [hE.1, xtys_ex hE]; exact wd.2.1, ⟨hD1.1, fun _ _ _ => trivial⟩⟩ hS1 hv
  have hrq : xr K1 33 j = Value.ref q := by
    show Value.ref _ = Value.ref _
    rw [hq]
  rw [hrq] at hgo
  exact hgo
theorem g_zretN {out : xR} {v : Int32} {ρ : xSt → xSt} {rc rs : Nat} (hX : xOK K X own cc nL) (hM : xMN K0 K ρ X out (some .boolean) rc rs) (hz : v &&& 1 = v) (e9 : (ρ S, some (Value.int v)) = out) (d : decode cc pc = .ok (.ireturn, 1)) : xG K X S pc lv [.int v] := by
  obtain ⟨p, l, e, R, s, m, args, below, meth, c, ce, sl, Q, A⟩ := X
  obtain ⟨hx, hb, hml, hown, hts, hA, hst, hvc⟩ := hX
  obtain ⟨⟨mc, ms, rfl, a2, a3, a4, a5⟩, rfl, hrt, hlk, hρ⟩ := hM
  intro H locs ls wd hS hv
  subst e9
  refine W_weaken (locs2 := locs.filter (fun y => decide (y.base < s.heap.size))) (fun y hy hlt => List.mem_filter.mpr ⟨hy, by simpa using hlt⟩) ?_
  refine W.widen (k := mc) (n := ms) (by omega) (by omega) ?_
  refine W.zret hx hb hrt (by show Value.int (v &&& 1) = _; rw [hz]) (fun t ht hW => ⟨rfl, by rw [ht]; exact xWd_moved hW.alike (hρ _ _ _ wd), ⟨by rw [ht]; exact hS.1, fun q hq hn => by rw [ht]; exact hS.2.1 q hq (fun z => z.elim hn (fun q2 => absurd hq (Nat.not_lt.mpr q2)))⟩⟩) (fun q hq => ?_) d hlk
  obtain ⟨h1, h2⟩ := List.mem_filter.mp hq
  have h2 : q.base < s.heap.size := by simpa using h2
  exact (hS.2.2 q h1).elim id (fun z => absurd h2 (Nat.not_lt.mpr z))
end XN
