theorem xl9_C : Cond.classLink RL 9 RX6 ∈ xTB := (xtb 27 (by decide +kernel) (by decide +kernel))
theorem xc9_C : kCI RL 69 yX6_init cX6_init 2 := ⟨⟨(Or.inl (xtb 29 (by decide +kernel) (by decide +kernel))), (xtb 17 (by decide +kernel) (by decide +kernel)), (xtb 31 rfl rfl), by decide +kernel, by decide +kernel, by decide +kernel⟩, rfl, (xtb 30 (by decide +kernel) (by decide +kernel))⟩
theorem xi6 : Cond.instantiable RX6 11 ∈ xTB := (xtb 28 (by decide +kernel) (by decide +kernel))
theorem xz6 : Cond.initialized RX6 ∈ xTB := (xtb 17 (by decide +kernel) (by decide +kernel))
set_option maxHeartbeats 4000000 in
set_option maxRecDepth 100000 in
theorem whole_open {S1 : xSt} (h6 : f6_refresh xS0 = some (S1, none)) (hlaw : ∀ (L : Nat) (xs : Nat → Int32), L ≤ 260 → ∃ out, fW_law_J8 L xs S1 = some out) {p : Program} {e : Env} {s : State} {m : MethodId} {below : List Frame} {meth : Method} {c : Code} (l : Launch) {b L : Nat} {xs : Nat → Int32} (hL : L ≤ 260) (C0 : lw_At p s m meth c b L xs) : W p l e room_1 s m #[Value.ref b] below meth c s.heap [] 0 0 (lw_Z below #[Value.ref b] s) (entryFrame m ([Value.ref b] : List Value).toArray 4) := by
  obtain ⟨hx, hb, hr, hml, hown, hts, hX, hbl, hlocks, hgv⟩ := id C0
  have hs := flat_of_before _ hgv
  have htb : ∀ w ∈ xTB, w.before #[Value.ref b] s = true := fun w hw => hts w (List.mem_filter.mp hw).1
  have hAn : ∀ a : Nat, a < s.heap.size → ¬ (fun q : Nat => s.heap.size ≤ q) a := fun a h h2 => Nat.lt_irrefl _ (Nat.lt_of_lt_of_le h h2)
  obtain ⟨c0, s0, hKn0⟩ := u_known (C := RX0) (T := TX0) (N := 5) (n := 5) htb xin0 (htb _ xi0)
  obtain ⟨c1, s1, hKn1⟩ := u_known (C := RX1) (T := TX1) (N := 3) (n := 3) htb xin1 (htb _ xi1)
  obtain ⟨c2, s2, hKn2⟩ := u_known (C := RX2) (T := TX2) (N := 5) (n := 5) htb xin2 (htb _ xi2)
  obtain ⟨c3, s3, hKn3⟩ := u_known (C := RX3) (T := TX3) (N := 11) (n := 11) htb xin3 (htb _ xi3)
  obtain ⟨c4, s4, hKn4⟩ := u_known (C := RX4) (T := TX4) (N := 4) (n := 4) htb xin4 (htb _ xi4)
  obtain ⟨c5, s5, hKn5⟩ := u_known (C := RX5) (T := TX5) (N := 12) (n := 12) htb xin5 (htb _ xi5)
  obtain ⟨c6, s6, hKn6⟩ := u_known (C := RX6) (T := TX6) (N := 11) (n := 11) htb xin6 (htb _ xi6)
  obtain ⟨t0, ht0, hT0⟩ := va_Tof (tm := Term.static "GrowingBook" "LOWEST" "[I") (ty := .int) (N := 3) (f := fun i => .int (xLO i)) (A := fun q : Nat => s.heap.size ≤ q) (by decide) (hs (.arrayOf (.static "GrowingBook" "LOWEST" "[I") .int) (by decide +kernel)) (va_eqt (hs (.eq (.length (.static "GrowingBook" "LOWEST" "[I")) (.int 3)) (by decide +kernel)))
    (fun j hj => by
      rcases (show j = 0 ∨ j = 1 ∨ j = 2 by omega) with rfl | rfl | rfl
      · exact va_eqt (hs (.eq (.elem (.static "GrowingBook" "LOWEST" "[I") (.int 0)) (.int 4)) (by decide +kernel))
      · exact va_eqt (hs (.eq (.elem (.static "GrowingBook" "LOWEST" "[I") (.int 1)) (.int 0)) (by decide +kernel))
      · exact va_eqt (hs (.eq (.elem (.static "GrowingBook" "LOWEST" "[I") (.int 2)) (.int 4)) (by decide +kernel))) hAn
  have hZ0 := va_Zref (A := fun q : Nat => s.heap.size ≤ q) (hts (.laysStatic "GrowingBook" "LOWEST" "[I") (List.mem_of_getElem? (i := 272) (by decide +kernel))) (htb (.initialized "GrowingBook") (xtb 17 (by decide +kernel) (by decide +kernel))) ht0 hAn
  obtain ⟨t1, ht1, hT1⟩ := va_Tof (tm := Term.static "GrowingBook" "HIGHEST" "[I") (ty := .int) (N := 3) (f := fun i => .int (xHI i)) (A := fun q : Nat => s.heap.size ≤ q) (by decide) (hs (.arrayOf (.static "GrowingBook" "HIGHEST" "[I") .int) (by decide +kernel)) (va_eqt (hs (.eq (.length (.static "GrowingBook" "HIGHEST" "[I")) (.int 3)) (by decide +kernel)))
    (fun j hj => by
      rcases (show j = 0 ∨ j = 1 ∨ j = 2 by omega) with rfl | rfl | rfl
      · exact va_eqt (hs (.eq (.elem (.static "GrowingBook" "HIGHEST" "[I") (.int 0)) (.int 9)) (by decide +kernel))
      · exact va_eqt (hs (.eq (.elem (.static "GrowingBook" "HIGHEST" "[I") (.int 1)) (.int 2)) (by decide +kernel))
      · exact va_eqt (hs (.eq (.elem (.static "GrowingBook" "HIGHEST" "[I") (.int 2)) (.int 32)) (by decide +kernel))) hAn
  have hZ1 := va_Zref (A := fun q : Nat => s.heap.size ≤ q) (hts (.laysStatic "GrowingBook" "HIGHEST" "[I") (List.mem_of_getElem? (i := 274) (by decide +kernel))) (htb (.initialized "GrowingBook") (xtb 17 (by decide +kernel) (by decide +kernel))) ht1 hAn
  obtain ⟨t2, ht2, hT2⟩ := va_Tof (tm := Term.static "GrowingBook" "FIRST" "[I") (ty := .int) (N := 3) (f := fun i => .int (xFI0 i)) (A := fun q : Nat => s.heap.size ≤ q) (by decide) (hs (.arrayOf (.static "GrowingBook" "FIRST" "[I") .int) (by decide +kernel)) (va_eqt (hs (.eq (.length (.static "GrowingBook" "FIRST" "[I")) (.int 3)) (by decide +kernel)))
    (fun j hj => by
      rcases (show j = 0 ∨ j = 1 ∨ j = 2 by omega) with rfl | rfl | rfl
      · exact va_eqt (hs (.eq (.elem (.static "GrowingBook" "FIRST" "[I") (.int 0)) (.int 6)) (by decide +kernel))
      · exact va_eqt (hs (.eq (.elem (.static "GrowingBook" "FIRST" "[I") (.int 1)) (.int 1)) (by decide +kernel))
      · exact va_eqt (hs (.eq (.elem (.static "GrowingBook" "FIRST" "[I") (.int 2)) (.int 8)) (by decide +kernel))) hAn
  have hZ2 := va_Zref (A := fun q : Nat => s.heap.size ≤ q) (hts (.laysStatic "GrowingBook" "FIRST" "[I") (List.mem_of_getElem? (i := 42) (by decide +kernel))) (htb (.initialized "GrowingBook") (xtb 17 (by decide +kernel) (by decide +kernel))) ht2 hAn
  obtain ⟨cI, kI, pI, i1, i2, i3⟩ := Cond.arrayClass_spec (htb _ xar0)
  obtain ⟨cZ, kZ, pZ, z1, z2, z3⟩ := Cond.arrayClass_spec (htb _ xar1)
  have hao : (Cond.arrayOver (.object "GrowingBook$State")).before #[Value.ref b] s = true := hts _ (List.mem_of_getElem? (i := 74) (by decide +kernel))
  obtain ⟨pS, cS, kS, s_1, s_2, s_3, s_4, s_5⟩ := Cond.arrayOver_spec hao
  obtain ⟨a9, k9, cell9, kk9, e_1, e_2, e_3, e_4, e_5, e_6, e_7⟩ := Cond.exactly_spec (hs (.exactly (.static "GrowingBook" "FIRST" "[I") "[I") (by decide +kernel))
  cases ht2.symm.trans e_1
  obtain ⟨K, hK0⟩ : ∃ K : xK, K = ((fun k => if k = 0 then c0 else if k = 1 then c1 else if k = 2 then c2 else if k = 3 then c3 else if k = 4 then c4 else if k = 5 then c5 else c6, fun k => if k = 0 then s0 else if k = 1 then s1 else if k = 2 then s2 else if k = 3 then s3 else if k = 4 then s4 else if k = 5 then s5 else s6), fun _ _ => 0, [], fun k => if k = 0 then cI else if k = 1 then cZ else if k = 2 then cZ else cS, fun k => if k = 0 then t0 else if k = 1 then t1 else if k = 2 then t2 else if k = 3 then b else L, xs) := ⟨_, rfl⟩
  have hKL : xsa K 4 = L := by rw [hK0]; rfl
  have hK3 : xsa K 3 = b := by rw [hK0]; rfl
  have hKx : xxs K = xs := by rw [hK0]; rfl
  have hTx : va_T .int b L (fun i => .int (xs i)) (fun q : Nat => s.heap.size ≤ q) s s.heap := by
    obtain ⟨scr, g1, g2, g3, g4, g5⟩ := hX
    exact ⟨scr, g1, g2, g3, Nat.le_of_eq g4.symm, by rw [g4], g5, hAn b hbl⟩
  have hKK : va_K K.1 vwCl (xtys K) s := by
    subst hK0
    refine ⟨fun k q hq => ?_, fun k q hq => ?_⟩
    · match k, hq with
      | 0, hq => cases hq; exact hKn0
      | 1, hq => cases hq; exact hKn1
      | 2, hq => cases hq; exact hKn2
      | 3, hq => cases hq; exact hKn3
      | 4, hq => cases hq; exact hKn4
      | 5, hq => cases hq; exact hKn5
      | 6, hq => cases hq; exact hKn6
      | k + 7, hq => simp [vwCl] at hq
    · match k, hq with
      | 0, hq => cases hq; exact ⟨fun n z => ⟨fun k h => (by cases h), kI, i2, pI, i3⟩, i1⟩
      | 1, hq => cases hq; exact ⟨fun n z => ⟨fun k h => (by cases h), kZ, z2, pZ, z3⟩, z1⟩
      | 2, hq => cases hq; exact ⟨fun n z => ⟨fun k h => (by cases h), kZ, z2, pZ, z3⟩, z1⟩
      | 3, hq => cases hq; exact ⟨fun n z => ⟨fun k h => (by cases h), kS, s_3, pS, s_4⟩, kS, pS, s_3, s_4, s_1, s_5⟩
      | k + 4, hq => simp [xtys] at hq
  have hst : kSt K (fun q : Nat => s.heap.size ≤ q) s s.heap := by
    subst hK0
    refine ⟨⟨hZ0, hT0, hZ1, hT1, hZ2, hT2, hTx⟩, cell9, e_3, e_5, ?_, by rw [e_6]; exact e_2, ?_, ?_⟩
    · obtain ⟨cell, g1, g2, g3, -⟩ := hT2
      cases g1.symm.trans e_3
      exact g3
    · obtain ⟨cell, g1, g2, g3, g4, g5, g6, -⟩ := hT2
      cases g1.symm.trans e_3
      have hev := va_eqt (hs (.eq (.length (.static "GrowingBook" "FIRST" "[I")) (.int 3)) (by decide +kernel))
      have hsz : cell9.slots.size < 2 ^ 31 := by
        obtain ⟨a, cell, q1, q2, q3⟩ := Term.length_spec hev
        cases ht2.symm.trans q1
        obtain ⟨w1, -⟩ := State.arrayAt?_spec q2
        cases w1.symm.trans e_3
        have ht3 := ht2
        generalize (Term.static "GrowingBook" "FIRST" "[I") = tq at hev ht3
        simp only [Term.eval, ht3, q2, Option.bind_eq_bind, Option.bind_some] at hev
        by_cases hlt : cell9.slots.size < 2147483648
        · exact hlt
        · simp [hlt] at hev
      have h3 : cell9.slots.size = 3 := by
        have : (nI cell9.slots.size).toInt = (nI 3).toInt := congrArg Int32.toInt g5
        rw [nI_toInt hsz, nI_toInt (by decide)] at this
        omega
      apply Array.ext (by rw [h3]; rfl)
      intro i hi1 hi2
      have hi3 : i < 3 := by omega
      have := g6 i hi3
      rw [Array.getElem?_eq_getElem hi1] at this
      rw [Option.some.inj this]
      rcases (show i = 0 ∨ i = 1 ∨ i = 2 by omega) with rfl | rfl | rfl <;> rfl
    · obtain ⟨cell, g1, g2, g3, g4, g5, g6, g7⟩ := hT2
      exact g7
  have hnw : xNw s := by
    intro w hw
    have h1 := hts w (List.mem_filter.mp hw).1
    have h2 := (List.mem_filter.mp hw).2
    cases w with
    | fieldLinkNest => exact va_Nw.of rfl h1
    | methodLinkNest => exact va_Nw.of rfl h1
    | _ => cases h2
  have hkw : kW s := ⟨va_Nw.of rfl (hts (.castable "[I" "java/lang/Cloneable") (List.mem_of_getElem? (i := 48) (by decide +kernel))), hao⟩
  clear hK0
  obtain ⟨X, hXe⟩ : ∃ X : xX, X = (p, l, e, room_1, s, m, #[Value.ref b], below, meth, c, 0, 0, lw_Z below #[Value.ref b] s, fun q : Nat => s.heap.size ≤ q) := ⟨_, rfl⟩
  have hOK : kOK K X RL cL_law 4 := by subst hXe; exact ⟨hx, hb, hml, hown, htb, fun _ h => h, hKK, hst, hnw, hkw⟩
  have hR : kRm X 11 428 600000 7302250 := by subst hXe; exact ⟨Nat.le_refl _, Nat.le_refl _, Nat.le_refl _, Nat.le_refl _⟩
  rw [lg_entry_eq]
  suffices h : kG K X [] 0 0 0 [(0, .ref b)] [] by
    subst hXe
    exact h s.heap [] _ (fun k q h => by simp at h) ⟨fun i j p q h => by simp at h, fun k q h => by simp at h⟩ va_S.rf (by rw [hml]; exact lv_entry [.ref b] (Nat.le_of_ble_eq_true rfl))
  refine k_new (ci := 6) (fs := [.null, .null, .null, .null, .null, .null, .null, .null, .null, .null, .null]) tyX6 hOK hR xin6 tyX6_ok xl9_C xi6 xz6 rfl xdv6 (Nat.le_of_ble_eq_true rfl) (Nat.le_of_ble_eq_true rfl) dL_law_0 (fun q1 => ?_)
  refine k_dup hOK dL_law_3 rfl ?_
  refine k_init [] hOK hR (fun l sz => n6 (l := l) (K := K) (h0 := q1) (sz := sz) h6) xc9_C ⟨by decide, Nat.le_of_ble_eq_true rfl⟩ ⟨Nat.le_of_ble_eq_true rfl, Nat.le_of_ble_eq_true rfl⟩ (Nat.le_of_ble_eq_true rfl) rfl dL_law_4 (fun w1 hw1 => ?_)
  obtain ⟨aC, ha1, rfl⟩ := hw1
  refine k_astore_n (lv2 := [(1, .ref q1), (0, .ref b)]) hOK dL_law_7 rfl (by decide) rfl ?_
  refine k_toG (K' := kGB K aC) (S := S1) hOK rfl ⟨rfl, rfl, rfl, rfl⟩ xvcC (fun hX9 => ?_)
  obtain ⟨out, hout⟩ := hlaw L xs hL
  have hLaw : xLaw (kX X (0 + 1 + 77) (0 + 11 + 101078)) b 1000 64000 := by
    subst hXe
    exact ⟨rfl, rfl, hr, hlocks, rfl, Nat.le_of_ble_eq_true rfl, Nat.le_of_ble_eq_true rfl, rfl⟩
  have hRm := kRm_x (X := X) (k := 0 + 1 + 77) (n := 0 + 11 + 101078) hR (by omega) (by omega)
  have hfin := sfW_law_J8 (out := out) hX9 hLaw hRm List.mem_cons_self (show xsa (kGB K aC) 4 = L from hKL) (show xxs (kGB K aC) = xs from hKx) (fun o h => (show ∀ q ∈ xvlC, ¬ q.1 = 33 by decide +kernel) (33, o) h rfl) ⟨Nat.le_refl _, Nat.le_refl _⟩ hout
  have e1 : xr (kGB K aC) 6 0 = .ref q1 := by rw [← ha1]; rfl
  have e2 : xrs (kGB K aC) 3 = .ref b := by show Value.ref (xsa K 3) = _; rw [hK3]
  rw [e1, e2] at hfin
  exact g_sub [1, 0] rfl hfin
