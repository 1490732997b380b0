theorem xin0 : ∀ w ∈ u_ws RX0 TX0 5, w ∈ xTB := by
  show ∀ w ∈ [u_lay RX0 TX0 0, u_lay RX0 TX0 1, u_lay RX0 TX0 2, u_lay RX0 TX0 3, u_lay RX0 TX0 4], w ∈ xTB
  exact List.forall_mem_cons.mpr ⟨(xtb 133 (by decide +kernel) (by decide +kernel)), List.forall_mem_cons.mpr ⟨(xtb 135 (by decide +kernel) (by decide +kernel)), List.forall_mem_cons.mpr ⟨(xtb 137 (by decide +kernel) (by decide +kernel)), List.forall_mem_cons.mpr ⟨(xtb 139 (by decide +kernel) (by decide +kernel)), List.forall_mem_cons.mpr ⟨(xtb 141 (by decide +kernel) (by decide +kernel)), fun _ h => absurd h List.not_mem_nil⟩⟩⟩⟩⟩
theorem xin1 : ∀ w ∈ u_ws RX1 TX1 3, w ∈ xTB := by
  show ∀ w ∈ [u_lay RX1 TX1 0, u_lay RX1 TX1 1, u_lay RX1 TX1 2], w ∈ xTB
  exact List.forall_mem_cons.mpr ⟨(xtb 80 (by decide +kernel) (by decide +kernel)), List.forall_mem_cons.mpr ⟨(xtb 82 (by decide +kernel) (by decide +kernel)), List.forall_mem_cons.mpr ⟨(xtb 84 (by decide +kernel) (by decide +kernel)), fun _ h => absurd h List.not_mem_nil⟩⟩⟩
theorem xin2 : ∀ w ∈ u_ws RX2 TX2 5, w ∈ xTB := by
  show ∀ w ∈ [u_lay RX2 TX2 0, u_lay RX2 TX2 1, u_lay RX2 TX2 2, u_lay RX2 TX2 3, u_lay RX2 TX2 4], w ∈ xTB
  exact List.forall_mem_cons.mpr ⟨(xtb 98 (by decide +kernel) (by decide +kernel)), List.forall_mem_cons.mpr ⟨(xtb 100 (by decide +kernel) (by decide +kernel)), List.forall_mem_cons.mpr ⟨(xtb 102 (by decide +kernel) (by decide +kernel)), List.forall_mem_cons.mpr ⟨(xtb 104 (by decide +kernel) (by decide +kernel)), List.forall_mem_cons.mpr ⟨(xtb 106 (by decide +kernel) (by decide +kernel)), fun _ h => absurd h List.not_mem_nil⟩⟩⟩⟩⟩
theorem xin3 : ∀ w ∈ u_ws RX3 TX3 11, w ∈ xTB := by
  show ∀ w ∈ [u_lay RX3 TX3 0, u_lay RX3 TX3 1, u_lay RX3 TX3 2, u_lay RX3 TX3 3, u_lay RX3 TX3 4, u_lay RX3 TX3 5, u_lay RX3 TX3 6, u_lay RX3 TX3 7, u_lay RX3 TX3 8, u_lay RX3 TX3 9, u_lay RX3 TX3 10], w ∈ xTB
  exact List.forall_mem_cons.mpr ⟨(xtb 215 (by decide +kernel) (by decide +kernel)), List.forall_mem_cons.mpr ⟨(xtb 217 (by decide +kernel) (by decide +kernel)), List.forall_mem_cons.mpr ⟨(xtb 219 (by decide +kernel) (by decide +kernel)), List.forall_mem_cons.mpr ⟨(xtb 221 (by decide +kernel) (by decide +kernel)), List.forall_mem_cons.mpr ⟨(xtb 223 (by decide +kernel) (by decide +kernel)), List.forall_mem_cons.mpr ⟨(xtb 225 (by decide +kernel) (by decide +kernel)), List.forall_mem_cons.mpr ⟨(xtb 227 (by decide +kernel) (by decide +kernel)), List.forall_mem_cons.mpr ⟨(xtb 229 (by decide +kernel) (by decide +kernel)), List.forall_mem_cons.mpr ⟨(xtb 231 (by decide +kernel) (by decide +kernel)), List.forall_mem_cons.mpr ⟨(xtb 233 (by decide +kernel) (by decide +kernel)), List.forall_mem_cons.mpr ⟨(xtb 235 (by decide +kernel) (by decide +kernel)), fun _ h => absurd h List.not_mem_nil⟩⟩⟩⟩⟩⟩⟩⟩⟩⟩⟩
theorem xin4 : ∀ w ∈ u_ws RX4 TX4 4, w ∈ xTB := by
  show ∀ w ∈ [u_lay RX4 TX4 0, u_lay RX4 TX4 1, u_lay RX4 TX4 2, u_lay RX4 TX4 3], w ∈ xTB
  exact List.forall_mem_cons.mpr ⟨(xtb 57 (by decide +kernel) (by decide +kernel)), List.forall_mem_cons.mpr ⟨(xtb 59 (by decide +kernel) (by decide +kernel)), List.forall_mem_cons.mpr ⟨(xtb 61 (by decide +kernel) (by decide +kernel)), List.forall_mem_cons.mpr ⟨(xtb 63 (by decide +kernel) (by decide +kernel)), fun _ h => absurd h List.not_mem_nil⟩⟩⟩⟩
theorem xin5 : ∀ w ∈ u_ws RX5 TX5 12, w ∈ xTB := by
  show ∀ w ∈ [u_lay RX5 TX5 0, u_lay RX5 TX5 1, u_lay RX5 TX5 2, u_lay RX5 TX5 3, u_lay RX5 TX5 4, u_lay RX5 TX5 5, u_lay RX5 TX5 6, u_lay RX5 TX5 7, u_lay RX5 TX5 8, u_lay RX5 TX5 9, u_lay RX5 TX5 10, u_lay RX5 TX5 11], w ∈ xTB
  exact List.forall_mem_cons.mpr ⟨(xtb 166 (by decide +kernel) (by decide +kernel)), List.forall_mem_cons.mpr ⟨(xtb 168 (by decide +kernel) (by decide +kernel)), List.forall_mem_cons.mpr ⟨(xtb 170 (by decide +kernel) (by decide +kernel)), List.forall_mem_cons.mpr ⟨(xtb 172 (by decide +kernel) (by decide +kernel)), List.forall_mem_cons.mpr ⟨(xtb 174 (by decide +kernel) (by decide +kernel)), List.forall_mem_cons.mpr ⟨(xtb 176 (by decide +kernel) (by decide +kernel)), List.forall_mem_cons.mpr ⟨(xtb 178 (by decide +kernel) (by decide +kernel)), List.forall_mem_cons.mpr ⟨(xtb 180 (by decide +kernel) (by decide +kernel)), List.forall_mem_cons.mpr ⟨(xtb 182 (by decide +kernel) (by decide +kernel)), List.forall_mem_cons.mpr ⟨(xtb 184 (by decide +kernel) (by decide +kernel)), List.forall_mem_cons.mpr ⟨(xtb 186 (by decide +kernel) (by decide +kernel)), List.forall_mem_cons.mpr ⟨(xtb 188 (by decide +kernel) (by decide +kernel)), fun _ h => absurd h List.not_mem_nil⟩⟩⟩⟩⟩⟩⟩⟩⟩⟩⟩⟩
theorem xin6 : ∀ w ∈ u_ws RX6 TX6 11, w ∈ xTB := by
  show ∀ w ∈ [u_lay RX6 TX6 0, u_lay RX6 TX6 1, u_lay RX6 TX6 2, u_lay RX6 TX6 3, u_lay RX6 TX6 4, u_lay RX6 TX6 5, u_lay RX6 TX6 6, u_lay RX6 TX6 7, u_lay RX6 TX6 8, u_lay RX6 TX6 9, u_lay RX6 TX6 10], w ∈ xTB
  exact List.forall_mem_cons.mpr ⟨(xtb 345 (by decide +kernel) (by decide +kernel)), List.forall_mem_cons.mpr ⟨(xtb 347 (by decide +kernel) (by decide +kernel)), List.forall_mem_cons.mpr ⟨(xtb 349 (by decide +kernel) (by decide +kernel)), List.forall_mem_cons.mpr ⟨(xtb 351 (by decide +kernel) (by decide +kernel)), List.forall_mem_cons.mpr ⟨(xtb 353 (by decide +kernel) (by decide +kernel)), List.forall_mem_cons.mpr ⟨(xtb 355 (by decide +kernel) (by decide +kernel)), List.forall_mem_cons.mpr ⟨(xtb 357 (by decide +kernel) (by decide +kernel)), List.forall_mem_cons.mpr ⟨(xtb 359 (by decide +kernel) (by decide +kernel)), List.forall_mem_cons.mpr ⟨(xtb 361 (by decide +kernel) (by decide +kernel)), List.forall_mem_cons.mpr ⟨(xtb 363 (by decide +kernel) (by decide +kernel)), List.forall_mem_cons.mpr ⟨(xtb 365 (by decide +kernel) (by decide +kernel)), fun _ h => absurd h List.not_mem_nil⟩⟩⟩⟩⟩⟩⟩⟩⟩⟩⟩
theorem xin7 : ∀ w ∈ u_ws RX7 TX7 0, w ∈ xTB := by
  show ∀ w ∈ [], w ∈ xTB
  exact fun _ h => absurd h List.not_mem_nil
theorem xms_max : Cond.static Lib.Math.max.name ∈ xTB := (xtb 284 (by decide +kernel) (by decide +kernel))
theorem xmc_max : Cond.code Lib.Math.max.name Lib.Math.max.code 2 (some .int) ∈ xTB := (xtb 285 rfl rfl)
theorem xms_min : Cond.static Lib.Math.min.name ∈ xTB := (xtb 382 (by decide +kernel) (by decide +kernel))
theorem xmc_min : Cond.code Lib.Math.min.name Lib.Math.min.code 2 (some .int) ∈ xTB := (xtb 383 rfl rfl)
theorem xmi : Cond.initialized "java/lang/Math" ∈ xTB := (xtb 25 (by decide +kernel) (by decide +kernel))
theorem xcp_n : Cond.native arraycopyName ∈ xTB := (xtb 389 (by decide +kernel) (by decide +kernel))
theorem xcp_s : Cond.static arraycopyName ∈ xTB := (xtb 388 (by decide +kernel) (by decide +kernel))
theorem xcp_i : Cond.initialized "java/lang/System" ∈ xTB := (xtb 26 (by decide +kernel) (by decide +kernel))
theorem xf6_200 : xSL RX6 200 (xSn 0) := (Or.inl (xtb 375 (by decide +kernel) (by decide +kernel)))
theorem xf6_203 : xSL RX6 203 (xSn 1) := (Or.inl (xtb 376 (by decide +kernel) (by decide +kernel)))
theorem xc6_68 : xCS RX6 68 yX6_isSetting cX6_isSetting 2 (some .boolean) 2 := ⟨⟨(Or.inl (xtb 372 (by decide +kernel) (by decide +kernel))), (xtb 17 (by decide +kernel) (by decide +kernel)), (xtb 374 rfl rfl), by decide +kernel, by decide +kernel, by decide +kernel⟩, (xtb 373 (by decide +kernel) (by decide +kernel))⟩
theorem xf6_19 : xFR RX6 19 6 1 0 1 0 := ⟨⟨RX6, TX6, 11, tyX6, rfl, by decide, xin6, tyX6_ok, nmX6, (Or.inl (xtb 335 (by decide +kernel) (by decide +kernel))), fun _ _ _ => ⟨rfl, rfl⟩⟩, fun _ _ => rfl⟩
theorem xf6_12 : xFR RX6 12 6 0 0 4 0 := ⟨⟨RX6, TX6, 11, tyX6, rfl, by decide, xin6, tyX6_ok, nmX6, (Or.inl (xtb 334 (by decide +kernel) (by decide +kernel))), fun _ _ _ => ⟨rfl, rfl⟩⟩, fun _ _ => rfl⟩
theorem xf1_18 : xFI RX1 18 1 1 := ⟨⟨RX1, TX1, 3, tyX1, rfl, by decide, xin1, tyX1_ok, nmX1, (Or.inl (xtb 77 (by decide +kernel) (by decide +kernel))), fun _ _ _ => ⟨rfl, rfl⟩⟩, ⟨RX1, TX1, 3, rfl, rfl, by decide +kernel⟩, fun _ _ _ => rfl, fun _ _ _ _ => rfl⟩
theorem xf1_22 : xFI RX1 22 1 2 := ⟨⟨RX1, TX1, 3, tyX1, rfl, by decide, xin1, tyX1_ok, nmX1, (Or.inl (xtb 78 (by decide +kernel) (by decide +kernel))), fun _ _ _ => ⟨rfl, rfl⟩⟩, ⟨RX1, TX1, 3, rfl, rfl, by decide +kernel⟩, fun _ _ _ => rfl, fun _ _ _ _ => rfl⟩
theorem xm1_25 : Cond.methodLink RX1 25 Lib.Math.min.name ∈ xTB := (xtb 381 (by decide +kernel) (by decide +kernel))
theorem xf1_11 (o : Nat) : xFR RX1 11 1 0 o 14 o := ⟨⟨RX1, TX1, 3, tyX1, rfl, by decide, xin1, tyX1_ok, nmX1, (Or.inl (xtb 76 (by decide +kernel) (by decide +kernel))), fun _ _ _ => ⟨rfl, rfl⟩⟩, fun _ _ => rfl⟩
theorem xf6_76 (o : Nat) : xFR RX6 76 4 0 o 22 o := ⟨⟨RX4, TX4, 4, tyX4, rfl, by decide, xin4, tyX4_ok, nmX4, (Or.inl (xtb 51 (by decide +kernel) (by decide +kernel))), fun _ _ _ => ⟨rfl, rfl⟩⟩, fun _ _ => rfl⟩
theorem xm6_121 : Cond.methodLink RX6 121 arraycopyName ∈ xTB := (xtb 387 (by decide +kernel) (by decide +kernel))
theorem xf6_86 (o : Nat) : xFR RX6 86 4 1 o 23 o := ⟨⟨RX4, TX4, 4, tyX4, rfl, by decide, xin4, tyX4_ok, nmX4, (Or.inl (xtb 53 (by decide +kernel) (by decide +kernel))), fun _ _ _ => ⟨rfl, rfl⟩⟩, fun _ _ => rfl⟩
theorem xf6_99 (o : Nat) : xFR RX6 99 4 2 o 24 o := ⟨⟨RX4, TX4, 4, tyX4, rfl, by decide, xin4, tyX4_ok, nmX4, (Or.inl (xtb 55 (by decide +kernel) (by decide +kernel))), fun _ _ _ => ⟨rfl, rfl⟩⟩, fun _ _ => rfl⟩
theorem xf6_82 : xFI RX6 82 4 3 := ⟨⟨RX4, TX4, 4, tyX4, rfl, by decide, xin4, tyX4_ok, nmX4, (Or.inl (xtb 56 (by decide +kernel) (by decide +kernel))), fun _ _ _ => ⟨rfl, rfl⟩⟩, ⟨RX4, TX4, 4, rfl, rfl, by decide +kernel⟩, fun _ _ _ => rfl, fun _ _ _ _ => rfl⟩
theorem xc1_31 : xCS RX1 31 yX6_copyState cX6_copyState 2 none 2 := ⟨⟨(Or.inr ⟨"GrowingBook", (xnl 384 (by decide +kernel) rfl)⟩), (xtb 17 (by decide +kernel) (by decide +kernel)), (xtb 386 rfl rfl), by decide +kernel, by decide +kernel, by decide +kernel⟩, (xtb 385 (by decide +kernel) (by decide +kernel))⟩
theorem xc6_72 : xCV RX6 72 1 yX1_record cX1_record 2 none 1 := ⟨⟨(Or.inl (xtb 377 (by decide +kernel) (by decide +kernel))), (xtb 19 (by decide +kernel) (by decide +kernel)), (xtb 380 rfl rfl), by decide +kernel, by decide +kernel, by decide +kernel⟩, (xtb 378 (by decide +kernel) (by decide +kernel)), (xtb 379 (by decide +kernel) (by decide +kernel)), ⟨_, _, rfl⟩, fun _ _ _ => rfl⟩
theorem xf4_26 (o : Nat) : xFR RX4 26 4 2 o 24 o := ⟨⟨RX4, TX4, 4, tyX4, rfl, by decide, xin4, tyX4_ok, nmX4, (Or.inl (xtb 54 (by decide +kernel) (by decide +kernel))), fun _ _ _ => ⟨rfl, rfl⟩⟩, fun _ _ => rfl⟩
theorem xc4_29 : xCS RX4 29 yJ7_fill_53178 cJ7_fill_53178 4 none 2 := ⟨⟨(Or.inl (xtb 394 (by decide +kernel) (by decide +kernel))), (xtb 24 (by decide +kernel) (by decide +kernel)), (xtb 396 rfl rfl), by decide +kernel, by decide +kernel, by decide +kernel⟩, (xtb 395 (by decide +kernel) (by decide +kernel))⟩
theorem xc6_79 : xCV RX6 79 4 yX4_mendCodes cX4_mendCodes 1 none 0 := ⟨⟨(Or.inl (xtb 390 (by decide +kernel) (by decide +kernel))), (xtb 18 (by decide +kernel) (by decide +kernel)), (xtb 393 rfl rfl), by decide +kernel, by decide +kernel, by decide +kernel⟩, (xtb 391 (by decide +kernel) (by decide +kernel)), (xtb 392 (by decide +kernel) (by decide +kernel)), ⟨_, _, rfl⟩, fun _ _ _ => rfl⟩
theorem xf6_41 : xFR RX6 41 6 5 0 5 0 := ⟨⟨RX6, TX6, 11, tyX6, rfl, by decide, xin6, tyX6_ok, nmX6, (Or.inl (xtb 339 (by decide +kernel) (by decide +kernel))), fun _ _ _ => ⟨rfl, rfl⟩⟩, fun _ _ => rfl⟩
theorem xf5_12 (o : Nat) : xFR RX5 12 5 0 o 0 o := ⟨⟨RX5, TX5, 12, tyX5, rfl, by decide, xin5, tyX5_ok, nmX5, (Or.inl (xtb 144 (by decide +kernel) (by decide +kernel))), fun _ _ _ => ⟨rfl, rfl⟩⟩, fun _ _ => rfl⟩
theorem xf0_24 : xFI RX0 24 0 4 := ⟨⟨RX0, TX0, 5, tyX0, rfl, by decide, xin0, tyX0_ok, nmX0, (Or.inl (xtb 130 (by decide +kernel) (by decide +kernel))), fun _ _ _ => ⟨rfl, rfl⟩⟩, ⟨RX0, TX0, 5, rfl, rfl, by decide +kernel⟩, fun _ _ _ => rfl, fun _ _ _ _ => rfl⟩
theorem xf0_21 (o : Nat) : xFR RX0 21 0 3 o 13 o := ⟨⟨RX0, TX0, 5, tyX0, rfl, by decide, xin0, tyX0_ok, nmX0, (Or.inl (xtb 129 (by decide +kernel) (by decide +kernel))), fun _ _ _ => ⟨rfl, rfl⟩⟩, fun _ _ => rfl⟩
theorem xc0_28 : xCS RX0 28 yJ7_fill_fda19 cJ7_fill_fda19 5 none 4 := ⟨⟨(Or.inl (xtb 254 (by decide +kernel) (by decide +kernel))), (xtb 24 (by decide +kernel) (by decide +kernel)), (xtb 256 rfl rfl), by decide +kernel, by decide +kernel, by decide +kernel⟩, (xtb 255 (by decide +kernel) (by decide +kernel))⟩
theorem xc5_59 : xCV RX5 59 0 yX0_dropPhrases cX0_dropPhrases 1 none 0 := ⟨⟨(Or.inl (xtb 250 (by decide +kernel) (by decide +kernel))), (xtb 22 (by decide +kernel) (by decide +kernel)), (xtb 253 rfl rfl), by decide +kernel, by decide +kernel, by decide +kernel⟩, (xtb 251 (by decide +kernel) (by decide +kernel)), (xtb 252 (by decide +kernel) (by decide +kernel)), ⟨_, _, rfl⟩, fun _ _ _ => rfl⟩
theorem xf5_62 : xFI RX5 62 5 10 := ⟨⟨RX5, TX5, 12, tyX5, rfl, by decide, xin5, tyX5_ok, nmX5, (Or.inl (xtb 164 (by decide +kernel) (by decide +kernel))), fun _ _ _ => ⟨rfl, rfl⟩⟩, ⟨RX5, TX5, 12, rfl, rfl, by decide +kernel⟩, fun _ _ _ => rfl, fun _ _ _ _ => rfl⟩
theorem xf5_65 : xFI RX5 65 5 6 := ⟨⟨RX5, TX5, 12, tyX5, rfl, by decide, xin5, tyX5_ok, nmX5, (Or.inl (xtb 156 (by decide +kernel) (by decide +kernel))), fun _ _ _ => ⟨rfl, rfl⟩⟩, ⟨RX5, TX5, 12, rfl, rfl, by decide +kernel⟩, fun _ _ _ => rfl, fun _ _ _ _ => rfl⟩
theorem xf5_68 : xFI RX5 68 5 7 := ⟨⟨RX5, TX5, 12, tyX5, rfl, by decide, xin5, tyX5_ok, nmX5, (Or.inl (xtb 158 (by decide +kernel) (by decide +kernel))), fun _ _ _ => ⟨rfl, rfl⟩⟩, ⟨RX5, TX5, 12, rfl, rfl, by decide +kernel⟩, fun _ _ _ => rfl, fun _ _ _ _ => rfl⟩
theorem xf5_55 : xFI RX5 55 5 8 := ⟨⟨RX5, TX5, 12, tyX5, rfl, by decide, xin5, tyX5_ok, nmX5, (Or.inl (xtb 160 (by decide +kernel) (by decide +kernel))), fun _ _ _ => ⟨rfl, rfl⟩⟩, ⟨RX5, TX5, 12, rfl, rfl, by decide +kernel⟩, fun _ _ _ => rfl, fun _ _ _ _ => rfl⟩
theorem xf5_71 : xFI RX5 71 5 9 := ⟨⟨RX5, TX5, 12, tyX5, rfl, by decide, xin5, tyX5_ok, nmX5, (Or.inl (xtb 162 (by decide +kernel) (by decide +kernel))), fun _ _ _ => ⟨rfl, rfl⟩⟩, ⟨RX5, TX5, 12, rfl, rfl, by decide +kernel⟩, fun _ _ _ => rfl, fun _ _ _ _ => rfl⟩
theorem xc5_34 : xCV RX5 34 5 yX5_begin cX5_begin 2 none 1 := ⟨⟨(Or.inl (xtb 246 (by decide +kernel) (by decide +kernel))), (xtb 21 (by decide +kernel) (by decide +kernel)), (xtb 249 rfl rfl), by decide +kernel, by decide +kernel, by decide +kernel⟩, (xtb 248 (by decide +kernel) (by decide +kernel)), (xtb 1 (by decide +kernel) (by decide +kernel)), ⟨_, _, rfl⟩, fun _ _ _ => rfl⟩
theorem xf5_74 : xFI RX5 74 0 4 := ⟨⟨RX0, TX0, 5, tyX0, rfl, by decide, xin0, tyX0_ok, nmX0, (Or.inl (xtb 131 (by decide +kernel) (by decide +kernel))), fun _ _ _ => ⟨rfl, rfl⟩⟩, ⟨RX0, TX0, 5, rfl, rfl, by decide +kernel⟩, fun _ _ _ => rfl, fun _ _ _ _ => rfl⟩
theorem xf5_81 : xSL RX5 81 (xSn 0) := (Or.inr ⟨"GrowingBook", (xnl 271 (by decide +kernel) rfl)⟩)
theorem xf5_84 : xSL RX5 84 (xSn 1) := (Or.inr ⟨"GrowingBook", (xnl 273 (by decide +kernel) rfl)⟩)
theorem xc5_77 : xCS RX5 77 yX5_bitsOf cX5_bitsOf 2 (some .int) 1 := ⟨⟨(Or.inl (xtb 268 (by decide +kernel) (by decide +kernel))), (xtb 21 (by decide +kernel) (by decide +kernel)), (xtb 270 rfl rfl), by decide +kernel, by decide +kernel, by decide +kernel⟩, (xtb 269 (by decide +kernel) (by decide +kernel))⟩
theorem xf5_18 (o : Nat) : xFR RX5 18 5 1 o 25 o := ⟨⟨RX5, TX5, 12, tyX5, rfl, by decide, xin5, tyX5_ok, nmX5, (Or.inl (xtb 146 (by decide +kernel) (by decide +kernel))), fun _ _ _ => ⟨rfl, rfl⟩⟩, fun _ _ => rfl⟩
theorem xf5_22 (o : Nat) : xFR RX5 22 5 2 o 26 o := ⟨⟨RX5, TX5, 12, tyX5, rfl, by decide, xin5, tyX5_ok, nmX5, (Or.inl (xtb 148 (by decide +kernel) (by decide +kernel))), fun _ _ _ => ⟨rfl, rfl⟩⟩, fun _ _ => rfl⟩
theorem xf5_25 (o : Nat) : xFR RX5 25 5 3 o 27 o := ⟨⟨RX5, TX5, 12, tyX5, rfl, by decide, xin5, tyX5_ok, nmX5, (Or.inl (xtb 150 (by decide +kernel) (by decide +kernel))), fun _ _ _ => ⟨rfl, rfl⟩⟩, fun _ _ => rfl⟩
theorem xf5_28 (o : Nat) : xFR RX5 28 5 4 o 28 o := ⟨⟨RX5, TX5, 12, tyX5, rfl, by decide, xin5, tyX5_ok, nmX5, (Or.inl (xtb 152 (by decide +kernel) (by decide +kernel))), fun _ _ _ => ⟨rfl, rfl⟩⟩, fun _ _ => rfl⟩
theorem xf5_31 (o : Nat) : xFR RX5 31 5 5 o 29 o := ⟨⟨RX5, TX5, 12, tyX5, rfl, by decide, xin5, tyX5_ok, nmX5, (Or.inl (xtb 154 (by decide +kernel) (by decide +kernel))), fun _ _ _ => ⟨rfl, rfl⟩⟩, fun _ _ => rfl⟩
theorem xc5_43 : xCV RX5 43 5 yX5_writeCode cX5_writeCode 5 none 3 := ⟨⟨(Or.inl (xtb 264 (by decide +kernel) (by decide +kernel))), (xtb 21 (by decide +kernel) (by decide +kernel)), (xtb 267 rfl rfl), by decide +kernel, by decide +kernel, by decide +kernel⟩, (xtb 266 (by decide +kernel) (by decide +kernel)), (xtb 2 (by decide +kernel) (by decide +kernel)), ⟨_, _, rfl⟩, fun _ _ _ => rfl⟩
theorem xc5_38 : xCV RX5 38 0 yX0_longestAt cX0_longestAt 7 (some .int) 3 := ⟨⟨(Or.inl (xtb 260 (by decide +kernel) (by decide +kernel))), (xtb 22 (by decide +kernel) (by decide +kernel)), (xtb 263 rfl rfl), by decide +kernel, by decide +kernel, by decide +kernel⟩, (xtb 261 (by decide +kernel) (by decide +kernel)), (xtb 262 (by decide +kernel) (by decide +kernel)), ⟨_, _, rfl⟩, fun _ _ _ => rfl⟩
theorem xf5_42 (o : Nat) : xFR RX5 42 0 2 o 12 o := ⟨⟨RX0, TX0, 5, tyX0, rfl, by decide, xin0, tyX0_ok, nmX0, (Or.inl (xtb 127 (by decide +kernel) (by decide +kernel))), fun _ _ _ => ⟨rfl, rfl⟩⟩, fun _ _ => rfl⟩
theorem xf0_9 (o : Nat) : xFR RX0 9 0 0 o 10 o := ⟨⟨RX0, TX0, 5, tyX0, rfl, by decide, xin0, tyX0_ok, nmX0, (Or.inl (xtb 122 (by decide +kernel) (by decide +kernel))), fun _ _ _ => ⟨rfl, rfl⟩⟩, fun _ _ => rfl⟩
theorem xf0_15 (o : Nat) : xFR RX0 15 0 1 o 11 o := ⟨⟨RX0, TX0, 5, tyX0, rfl, by decide, xin0, tyX0_ok, nmX0, (Or.inl (xtb 124 (by decide +kernel) (by decide +kernel))), fun _ _ _ => ⟨rfl, rfl⟩⟩, fun _ _ => rfl⟩
theorem xf0_18 (o : Nat) : xFR RX0 18 0 2 o 12 o := ⟨⟨RX0, TX0, 5, tyX0, rfl, by decide, xin0, tyX0_ok, nmX0, (Or.inl (xtb 126 (by decide +kernel) (by decide +kernel))), fun _ _ _ => ⟨rfl, rfl⟩⟩, fun _ _ => rfl⟩
theorem xc5_87 : xCV RX5 87 0 yX0_addPhrase cX0_addPhrase 3 none 2 := ⟨⟨(Or.inl (xtb 279 (by decide +kernel) (by decide +kernel))), (xtb 22 (by decide +kernel) (by decide +kernel)), (xtb 282 rfl rfl), by decide +kernel, by decide +kernel, by decide +kernel⟩, (xtb 280 (by decide +kernel) (by decide +kernel)), (xtb 281 (by decide +kernel) (by decide +kernel)), ⟨_, _, rfl⟩, fun _ _ _ => rfl⟩
theorem xm5_90 : Cond.methodLink RX5 90 Lib.Math.max.name ∈ xTB := (xtb 283 (by decide +kernel) (by decide +kernel))
theorem xf5_96 : xFI RX5 96 5 11 := ⟨⟨RX5, TX5, 12, tyX5, rfl, by decide, xin5, tyX5_ok, nmX5, (Or.inl (xtb 165 (by decide +kernel) (by decide +kernel))), fun _ _ _ => ⟨rfl, rfl⟩⟩, ⟨RX5, TX5, 12, rfl, rfl, by decide +kernel⟩, fun _ _ _ => rfl, fun _ _ _ _ => rfl⟩
theorem xc5_47 : xCV RX5 47 5 yX5_grow cX5_grow 3 none 2 := ⟨⟨(Or.inl (xtb 275 (by decide +kernel) (by decide +kernel))), (xtb 21 (by decide +kernel) (by decide +kernel)), (xtb 278 rfl rfl), by decide +kernel, by decide +kernel, by decide +kernel⟩, (xtb 277 (by decide +kernel) (by decide +kernel)), (xtb 3 (by decide +kernel) (by decide +kernel)), ⟨_, _, rfl⟩, fun _ _ _ => rfl⟩
theorem xc5_103 : xCV RX5 103 5 yX5_signsOf cX5_signsOf 5 (some .int) 2 := ⟨⟨(Or.inl (xtb 294 (by decide +kernel) (by decide +kernel))), (xtb 21 (by decide +kernel) (by decide +kernel)), (xtb 297 rfl rfl), by decide +kernel, by decide +kernel, by decide +kernel⟩, (xtb 296 (by decide +kernel) (by decide +kernel)), (xtb 6 (by decide +kernel) (by decide +kernel)), ⟨_, _, rfl⟩, fun _ _ _ => rfl⟩
theorem xc5_99 : xCV RX5 99 5 yX5_losesBy cX5_losesBy 2 (some .boolean) 1 := ⟨⟨(Or.inl (xtb 290 (by decide +kernel) (by decide +kernel))), (xtb 21 (by decide +kernel) (by decide +kernel)), (xtb 293 rfl rfl), by decide +kernel, by decide +kernel, by decide +kernel⟩, (xtb 292 (by decide +kernel) (by decide +kernel)), (xtb 5 (by decide +kernel) (by decide +kernel)), ⟨_, _, rfl⟩, fun _ _ _ => rfl⟩
theorem xc5_51 : xCV RX5 51 5 yX5_mustClear cX5_mustClear 3 (some .boolean) 2 := ⟨⟨(Or.inl (xtb 286 (by decide +kernel) (by decide +kernel))), (xtb 21 (by decide +kernel) (by decide +kernel)), (xtb 289 rfl rfl), by decide +kernel, by decide +kernel, by decide +kernel⟩, (xtb 288 (by decide +kernel) (by decide +kernel)), (xtb 4 (by decide +kernel) (by decide +kernel)), ⟨_, _, rfl⟩, fun _ _ _ => rfl⟩
theorem xc6_217 : xCV RX6 217 5 yX5_writeOut cX5_writeOut 9 none 5 := ⟨⟨(Or.inl (xtb 242 (by decide +kernel) (by decide +kernel))), (xtb 21 (by decide +kernel) (by decide +kernel)), (xtb 245 rfl rfl), by decide +kernel, by decide +kernel, by decide +kernel⟩, (xtb 243 (by decide +kernel) (by decide +kernel)), (xtb 244 (by decide +kernel) (by decide +kernel)), ⟨_, _, rfl⟩, fun _ _ _ => rfl⟩
theorem xf6_142 : xFI RX6 142 5 6 := ⟨⟨RX5, TX5, 12, tyX5, rfl, by decide, xin5, tyX5_ok, nmX5, (Or.inl (xtb 157 (by decide +kernel) (by decide +kernel))), fun _ _ _ => ⟨rfl, rfl⟩⟩, ⟨RX5, TX5, 12, rfl, rfl, by decide +kernel⟩, fun _ _ _ => rfl, fun _ _ _ _ => rfl⟩
theorem xf6_48 : xFR RX6 48 6 6 0 3 0 := ⟨⟨RX6, TX6, 11, tyX6, rfl, by decide, xin6, tyX6_ok, nmX6, (Or.inl (xtb 340 (by decide +kernel) (by decide +kernel))), fun _ _ _ => ⟨rfl, rfl⟩⟩, fun _ _ => rfl⟩
theorem xf6_52 : xFR RX6 52 6 7 0 32 0 := ⟨⟨RX6, TX6, 11, tyX6, rfl, by decide, xin6, tyX6_ok, nmX6, (Or.inl (xtb 341 (by decide +kernel) (by decide +kernel))), fun _ _ _ => ⟨rfl, rfl⟩⟩, fun _ _ => rfl⟩
theorem xf3_40 : xFI RX3 40 3 8 := ⟨⟨RX3, TX3, 11, tyX3, rfl, by decide, xin3, tyX3_ok, nmX3, (Or.inl (xtb 212 (by decide +kernel) (by decide +kernel))), fun _ _ _ => ⟨rfl, rfl⟩⟩, ⟨RX3, TX3, 11, rfl, rfl, by decide +kernel⟩, fun _ _ _ => rfl, fun _ _ _ _ => rfl⟩
theorem xf3_44 : xFI RX3 44 3 1 := ⟨⟨RX3, TX3, 11, tyX3, rfl, by decide, xin3, tyX3_ok, nmX3, (Or.inl (xtb 200 (by decide +kernel) (by decide +kernel))), fun _ _ _ => ⟨rfl, rfl⟩⟩, ⟨RX3, TX3, 11, rfl, rfl, by decide +kernel⟩, fun _ _ _ => rfl, fun _ _ _ _ => rfl⟩
theorem xf3_47 : xFI RX3 47 3 3 := ⟨⟨RX3, TX3, 11, tyX3, rfl, by decide, xin3, tyX3_ok, nmX3, (Or.inl (xtb 204 (by decide +kernel) (by decide +kernel))), fun _ _ _ => ⟨rfl, rfl⟩⟩, ⟨RX3, TX3, 11, rfl, rfl, by decide +kernel⟩, fun _ _ _ => rfl, fun _ _ _ _ => rfl⟩
theorem xf3_50 : xFI RX3 50 3 4 := ⟨⟨RX3, TX3, 11, tyX3, rfl, by decide, xin3, tyX3_ok, nmX3, (Or.inl (xtb 206 (by decide +kernel) (by decide +kernel))), fun _ _ _ => ⟨rfl, rfl⟩⟩, ⟨RX3, TX3, 11, rfl, rfl, by decide +kernel⟩, fun _ _ _ => rfl, fun _ _ _ _ => rfl⟩
theorem xf3_53 : xFI RX3 53 3 5 := ⟨⟨RX3, TX3, 11, tyX3, rfl, by decide, xin3, tyX3_ok, nmX3, (Or.inl (xtb 208 (by decide +kernel) (by decide +kernel))), fun _ _ _ => ⟨rfl, rfl⟩⟩, ⟨RX3, TX3, 11, rfl, rfl, by decide +kernel⟩, fun _ _ _ => rfl, fun _ _ _ _ => rfl⟩
theorem xf3_56 : xFI RX3 56 3 2 := ⟨⟨RX3, TX3, 11, tyX3, rfl, by decide, xin3, tyX3_ok, nmX3, (Or.inl (xtb 202 (by decide +kernel) (by decide +kernel))), fun _ _ _ => ⟨rfl, rfl⟩⟩, ⟨RX3, TX3, 11, rfl, rfl, by decide +kernel⟩, fun _ _ _ => rfl, fun _ _ _ _ => rfl⟩
theorem xf3_59 : xFI RX3 59 3 10 := ⟨⟨RX3, TX3, 11, tyX3, rfl, by decide, xin3, tyX3_ok, nmX3, (Or.inl (xtb 214 (by decide +kernel) (by decide +kernel))), fun _ _ _ => ⟨rfl, rfl⟩⟩, ⟨RX3, TX3, 11, rfl, rfl, by decide +kernel⟩, fun _ _ _ => rfl, fun _ _ _ _ => rfl⟩
theorem xc3_30 : xCV RX3 30 3 yX3_dropPhrases cX3_dropPhrases 1 none 0 := ⟨⟨(Or.inl (xtb 306 (by decide +kernel) (by decide +kernel))), (xtb 23 (by decide +kernel) (by decide +kernel)), (xtb 309 rfl rfl), by decide +kernel, by decide +kernel, by decide +kernel⟩, (xtb 308 (by decide +kernel) (by decide +kernel)), (xtb 8 (by decide +kernel) (by decide +kernel)), ⟨_, _, rfl⟩, fun _ _ _ => rfl⟩
theorem xc3_22 : xCV RX3 22 3 yX3_begin cX3_begin 2 none 1 := ⟨⟨(Or.inl (xtb 302 (by decide +kernel) (by decide +kernel))), (xtb 23 (by decide +kernel) (by decide +kernel)), (xtb 305 rfl rfl), by decide +kernel, by decide +kernel, by decide +kernel⟩, (xtb 304 (by decide +kernel) (by decide +kernel)), (xtb 7 (by decide +kernel) (by decide +kernel)), ⟨_, _, rfl⟩, fun _ _ _ => rfl⟩
theorem xc3_26 : xCV RX3 26 3 yX3_noteFault cX3_noteFault 3 none 2 := ⟨⟨(Or.inl (xtb 310 (by decide +kernel) (by decide +kernel))), (xtb 23 (by decide +kernel) (by decide +kernel)), (xtb 313 rfl rfl), by decide +kernel, by decide +kernel, by decide +kernel⟩, (xtb 312 (by decide +kernel) (by decide +kernel)), (xtb 9 (by decide +kernel) (by decide +kernel)), ⟨_, _, rfl⟩, fun _ _ _ => rfl⟩
theorem xc3_62 : xCV RX3 62 3 yX3_canGrow cX3_canGrow 1 (some .boolean) 0 := ⟨⟨(Or.inl (xtb 318 (by decide +kernel) (by decide +kernel))), (xtb 23 (by decide +kernel) (by decide +kernel)), (xtb 321 rfl rfl), by decide +kernel, by decide +kernel, by decide +kernel⟩, (xtb 320 (by decide +kernel) (by decide +kernel)), (xtb 11 (by decide +kernel) (by decide +kernel)), ⟨_, _, rfl⟩, fun _ _ _ => rfl⟩
theorem xc3_33 : xCV RX3 33 3 yX3_canStand cX3_canStand 2 (some .boolean) 1 := ⟨⟨(Or.inl (xtb 314 (by decide +kernel) (by decide +kernel))), (xtb 23 (by decide +kernel) (by decide +kernel)), (xtb 317 rfl rfl), by decide +kernel, by decide +kernel, by decide +kernel⟩, (xtb 316 (by decide +kernel) (by decide +kernel)), (xtb 10 (by decide +kernel) (by decide +kernel)), ⟨_, _, rfl⟩, fun _ _ _ => rfl⟩
theorem xf3_66 : xFI RX3 66 3 9 := ⟨⟨RX3, TX3, 11, tyX3, rfl, by decide, xin3, tyX3_ok, nmX3, (Or.inl (xtb 213 (by decide +kernel) (by decide +kernel))), fun _ _ _ => ⟨rfl, rfl⟩⟩, ⟨RX3, TX3, 11, rfl, rfl, by decide +kernel⟩, fun _ _ _ => rfl, fun _ _ _ _ => rfl⟩
theorem xf3_19 (o : Nat) : xFR RX3 19 3 7 o 21 o := ⟨⟨RX3, TX3, 11, tyX3, rfl, by decide, xin3, tyX3_ok, nmX3, (Or.inl (xtb 211 (by decide +kernel) (by decide +kernel))), fun _ _ _ => ⟨rfl, rfl⟩⟩, fun _ _ => rfl⟩
theorem xf3_16 (o : Nat) : xFR RX3 16 3 6 o 20 o := ⟨⟨RX3, TX3, 11, tyX3, rfl, by decide, xin3, tyX3_ok, nmX3, (Or.inl (xtb 210 (by decide +kernel) (by decide +kernel))), fun _ _ _ => ⟨rfl, rfl⟩⟩, fun _ _ => rfl⟩
theorem xf3_10 (o : Nat) : xFR RX3 10 3 0 o 19 o := ⟨⟨RX3, TX3, 11, tyX3, rfl, by decide, xin3, tyX3_ok, nmX3, (Or.inl (xtb 198 (by decide +kernel) (by decide +kernel))), fun _ _ _ => ⟨rfl, rfl⟩⟩, fun _ _ => rfl⟩
theorem xk3_9 : Cond.constant RX3 9 (39621 : Int32) ∈ xTB := (xtb 197 (by decide +kernel) (by decide +kernel))
theorem xc3_69 : xCV RX3 69 3 yX3_readSign cX3_readSign 2 none 1 := ⟨⟨(Or.inl (xtb 326 (by decide +kernel) (by decide +kernel))), (xtb 23 (by decide +kernel) (by decide +kernel)), (xtb 329 rfl rfl), by decide +kernel, by decide +kernel, by decide +kernel⟩, (xtb 328 (by decide +kernel) (by decide +kernel)), (xtb 13 (by decide +kernel) (by decide +kernel)), ⟨_, _, rfl⟩, fun _ _ _ => rfl⟩
theorem xc3_72 : xCV RX3 72 3 yX3_readPhrase cX3_readPhrase 4 none 2 := ⟨⟨(Or.inl (xtb 330 (by decide +kernel) (by decide +kernel))), (xtb 23 (by decide +kernel) (by decide +kernel)), (xtb 333 rfl rfl), by decide +kernel, by decide +kernel, by decide +kernel⟩, (xtb 332 (by decide +kernel) (by decide +kernel)), (xtb 14 (by decide +kernel) (by decide +kernel)), ⟨_, _, rfl⟩, fun _ _ _ => rfl⟩
theorem xc3_37 : xCV RX3 37 3 yX3_readEntry cX3_readEntry 2 none 1 := ⟨⟨(Or.inl (xtb 322 (by decide +kernel) (by decide +kernel))), (xtb 23 (by decide +kernel) (by decide +kernel)), (xtb 325 rfl rfl), by decide +kernel, by decide +kernel, by decide +kernel⟩, (xtb 324 (by decide +kernel) (by decide +kernel)), (xtb 12 (by decide +kernel) (by decide +kernel)), ⟨_, _, rfl⟩, fun _ _ _ => rfl⟩
theorem xc6_221 : xCV RX6 221 3 yX3_readAll cX3_readAll 6 none 3 := ⟨⟨(Or.inl (xtb 298 (by decide +kernel) (by decide +kernel))), (xtb 23 (by decide +kernel) (by decide +kernel)), (xtb 301 rfl rfl), by decide +kernel, by decide +kernel, by decide +kernel⟩, (xtb 299 (by decide +kernel) (by decide +kernel)), (xtb 300 (by decide +kernel) (by decide +kernel)), ⟨_, _, rfl⟩, fun _ _ _ => rfl⟩
theorem xf6_127 (o : Nat) : xFR RX6 127 5 1 o 25 o := ⟨⟨RX5, TX5, 12, tyX5, rfl, by decide, xin5, tyX5_ok, nmX5, (Or.inl (xtb 147 (by decide +kernel) (by decide +kernel))), fun _ _ _ => ⟨rfl, rfl⟩⟩, fun _ _ => rfl⟩
theorem xc6_65 : xCV RX6 65 6 yX6_refresh cX6_refresh 2 none 0 := ⟨⟨(Or.inl (xtb 238 (by decide +kernel) (by decide +kernel))), (xtb 17 (by decide +kernel) (by decide +kernel)), (xtb 241 rfl rfl), by decide +kernel, by decide +kernel, by decide +kernel⟩, (xtb 240 (by decide +kernel) (by decide +kernel)), (xtb 0 (by decide +kernel) (by decide +kernel)), ⟨_, _, rfl⟩, fun _ _ _ => rfl⟩
theorem xc6_89 : xCS RX6 89 yJ7_fill_fda19 cJ7_fill_fda19 5 none 4 := ⟨⟨(Or.inl (xtb 401 (by decide +kernel) (by decide +kernel))), (xtb 24 (by decide +kernel) (by decide +kernel)), (xtb 256 rfl rfl), by decide +kernel, by decide +kernel, by decide +kernel⟩, (xtb 255 (by decide +kernel) (by decide +kernel))⟩
theorem xc6_95 : xCV RX6 95 6 yX6_isCode cX6_isCode 2 (some .boolean) 1 := ⟨⟨(Or.inl (xtb 421 (by decide +kernel) (by decide +kernel))), (xtb 17 (by decide +kernel) (by decide +kernel)), (xtb 424 rfl rfl), by decide +kernel, by decide +kernel, by decide +kernel⟩, (xtb 423 (by decide +kernel) (by decide +kernel)), (xtb 15 (by decide +kernel) (by decide +kernel)), ⟨_, _, rfl⟩, fun _ _ _ => rfl⟩
theorem xf6_130 (o : Nat) : xFR RX6 130 5 2 o 26 o := ⟨⟨RX5, TX5, 12, tyX5, rfl, by decide, xin5, tyX5_ok, nmX5, (Or.inl (xtb 149 (by decide +kernel) (by decide +kernel))), fun _ _ _ => ⟨rfl, rfl⟩⟩, fun _ _ => rfl⟩
theorem xf6_133 (o : Nat) : xFR RX6 133 5 3 o 27 o := ⟨⟨RX5, TX5, 12, tyX5, rfl, by decide, xin5, tyX5_ok, nmX5, (Or.inl (xtb 151 (by decide +kernel) (by decide +kernel))), fun _ _ _ => ⟨rfl, rfl⟩⟩, fun _ _ => rfl⟩
theorem xf6_136 (o : Nat) : xFR RX6 136 5 4 o 28 o := ⟨⟨RX5, TX5, 12, tyX5, rfl, by decide, xin5, tyX5_ok, nmX5, (Or.inl (xtb 153 (by decide +kernel) (by decide +kernel))), fun _ _ _ => ⟨rfl, rfl⟩⟩, fun _ _ => rfl⟩
theorem xf6_139 (o : Nat) : xFR RX6 139 5 5 o 29 o := ⟨⟨RX5, TX5, 12, tyX5, rfl, by decide, xin5, tyX5_ok, nmX5, (Or.inl (xtb 155 (by decide +kernel) (by decide +kernel))), fun _ _ _ => ⟨rfl, rfl⟩⟩, fun _ _ => rfl⟩
theorem xf6_145 : xFI RX6 145 5 7 := ⟨⟨RX5, TX5, 12, tyX5, rfl, by decide, xin5, tyX5_ok, nmX5, (Or.inl (xtb 159 (by decide +kernel) (by decide +kernel))), fun _ _ _ => ⟨rfl, rfl⟩⟩, ⟨RX5, TX5, 12, rfl, rfl, by decide +kernel⟩, fun _ _ _ => rfl, fun _ _ _ _ => rfl⟩
theorem xf6_148 : xFI RX6 148 5 8 := ⟨⟨RX5, TX5, 12, tyX5, rfl, by decide, xin5, tyX5_ok, nmX5, (Or.inl (xtb 161 (by decide +kernel) (by decide +kernel))), fun _ _ _ => ⟨rfl, rfl⟩⟩, ⟨RX5, TX5, 12, rfl, rfl, by decide +kernel⟩, fun _ _ _ => rfl, fun _ _ _ _ => rfl⟩
theorem xf6_151 (o : Nat) : xFR RX6 151 5 0 o 0 o := ⟨⟨RX5, TX5, 12, tyX5, rfl, by decide, xin5, tyX5_ok, nmX5, (Or.inl (xtb 145 (by decide +kernel) (by decide +kernel))), fun _ _ _ => ⟨rfl, rfl⟩⟩, fun _ _ => rfl⟩
theorem xf6_155 : xFI RX6 155 0 4 := ⟨⟨RX0, TX0, 5, tyX0, rfl, by decide, xin0, tyX0_ok, nmX0, (Or.inl (xtb 132 (by decide +kernel) (by decide +kernel))), fun _ _ _ => ⟨rfl, rfl⟩⟩, ⟨RX0, TX0, 5, rfl, rfl, by decide +kernel⟩, fun _ _ _ => rfl, fun _ _ _ _ => rfl⟩
theorem xf6_160 : xFI RX6 160 5 9 := ⟨⟨RX5, TX5, 12, tyX5, rfl, by decide, xin5, tyX5_ok, nmX5, (Or.inl (xtb 163 (by decide +kernel) (by decide +kernel))), fun _ _ _ => ⟨rfl, rfl⟩⟩, ⟨RX5, TX5, 12, rfl, rfl, by decide +kernel⟩, fun _ _ _ => rfl, fun _ _ _ _ => rfl⟩
theorem xc6_163 : xCV RX6 163 4 yX4_countSpoiled cX4_countSpoiled 3 (some .int) 0 := ⟨⟨(Or.inl (xtb 413 (by decide +kernel) (by decide +kernel))), (xtb 18 (by decide +kernel) (by decide +kernel)), (xtb 416 rfl rfl), by decide +kernel, by decide +kernel, by decide +kernel⟩, (xtb 414 (by decide +kernel) (by decide +kernel)), (xtb 415 (by decide +kernel) (by decide +kernel)), ⟨_, _, rfl⟩, fun _ _ _ => rfl⟩
theorem xf6_34 : xFR RX6 34 6 4 0 2 0 := ⟨⟨RX6, TX6, 11, tyX6, rfl, by decide, xin6, tyX6_ok, nmX6, (Or.inl (xtb 338 (by decide +kernel) (by decide +kernel))), fun _ _ _ => ⟨rfl, rfl⟩⟩, fun _ _ => rfl⟩
theorem xf6_106 : xFI RX6 106 2 4 := ⟨⟨RX2, TX2, 5, tyX2, rfl, by decide, xin2, tyX2_ok, nmX2, (Or.inl (xtb 97 (by decide +kernel) (by decide +kernel))), fun _ _ _ => ⟨rfl, rfl⟩⟩, ⟨RX2, TX2, 5, rfl, rfl, by decide +kernel⟩, fun _ _ _ => rfl, fun _ _ _ _ => rfl⟩
theorem xf6_166 : xFI RX6 166 1 2 := ⟨⟨RX1, TX1, 3, tyX1, rfl, by decide, xin1, tyX1_ok, nmX1, (Or.inl (xtb 79 (by decide +kernel) (by decide +kernel))), fun _ _ _ => ⟨rfl, rfl⟩⟩, ⟨RX1, TX1, 3, rfl, rfl, by decide +kernel⟩, fun _ _ _ => rfl, fun _ _ _ _ => rfl⟩
theorem xf6_169 (o : Nat) : xFR RX6 169 0 2 o 12 o := ⟨⟨RX0, TX0, 5, tyX0, rfl, by decide, xin0, tyX0_ok, nmX0, (Or.inl (xtb 128 (by decide +kernel) (by decide +kernel))), fun _ _ _ => ⟨rfl, rfl⟩⟩, fun _ _ => rfl⟩
theorem xf6_170 (o : Nat) : xFR RX6 170 0 1 o 11 o := ⟨⟨RX0, TX0, 5, tyX0, rfl, by decide, xin0, tyX0_ok, nmX0, (Or.inl (xtb 125 (by decide +kernel) (by decide +kernel))), fun _ _ _ => ⟨rfl, rfl⟩⟩, fun _ _ => rfl⟩
theorem xf6_173 (o : Nat) : xFR RX6 173 0 0 o 10 o := ⟨⟨RX0, TX0, 5, tyX0, rfl, by decide, xin0, tyX0_ok, nmX0, (Or.inl (xtb 123 (by decide +kernel) (by decide +kernel))), fun _ _ _ => ⟨rfl, rfl⟩⟩, fun _ _ => rfl⟩
theorem xf6_176 : xFI RX6 176 3 1 := ⟨⟨RX3, TX3, 11, tyX3, rfl, by decide, xin3, tyX3_ok, nmX3, (Or.inl (xtb 201 (by decide +kernel) (by decide +kernel))), fun _ _ _ => ⟨rfl, rfl⟩⟩, ⟨RX3, TX3, 11, rfl, rfl, by decide +kernel⟩, fun _ _ _ => rfl, fun _ _ _ _ => rfl⟩
theorem xf6_179 : xFI RX6 179 3 4 := ⟨⟨RX3, TX3, 11, tyX3, rfl, by decide, xin3, tyX3_ok, nmX3, (Or.inl (xtb 207 (by decide +kernel) (by decide +kernel))), fun _ _ _ => ⟨rfl, rfl⟩⟩, ⟨RX3, TX3, 11, rfl, rfl, by decide +kernel⟩, fun _ _ _ => rfl, fun _ _ _ _ => rfl⟩
theorem xf6_182 : xFI RX6 182 3 5 := ⟨⟨RX3, TX3, 11, tyX3, rfl, by decide, xin3, tyX3_ok, nmX3, (Or.inl (xtb 209 (by decide +kernel) (by decide +kernel))), fun _ _ _ => ⟨rfl, rfl⟩⟩, ⟨RX3, TX3, 11, rfl, rfl, by decide +kernel⟩, fun _ _ _ => rfl, fun _ _ _ _ => rfl⟩
theorem xf6_185 : xFI RX6 185 3 2 := ⟨⟨RX3, TX3, 11, tyX3, rfl, by decide, xin3, tyX3_ok, nmX3, (Or.inl (xtb 203 (by decide +kernel) (by decide +kernel))), fun _ _ _ => ⟨rfl, rfl⟩⟩, ⟨RX3, TX3, 11, rfl, rfl, by decide +kernel⟩, fun _ _ _ => rfl, fun _ _ _ _ => rfl⟩
theorem xf6_186 : xFI RX6 186 3 3 := ⟨⟨RX3, TX3, 11, tyX3, rfl, by decide, xin3, tyX3_ok, nmX3, (Or.inl (xtb 205 (by decide +kernel) (by decide +kernel))), fun _ _ _ => ⟨rfl, rfl⟩⟩, ⟨RX3, TX3, 11, rfl, rfl, by decide +kernel⟩, fun _ _ _ => rfl, fun _ _ _ _ => rfl⟩
theorem xm3_75 : Cond.methodLink RX3 75 Lib.Math.min.name ∈ xTB := (xtb 461 (by decide +kernel) (by decide +kernel))
theorem xc6_189 : xCV RX6 189 3 yX3_firstDifference cX3_firstDifference 5 (some .int) 2 := ⟨⟨(Or.inl (xtb 457 (by decide +kernel) (by decide +kernel))), (xtb 23 (by decide +kernel) (by decide +kernel)), (xtb 460 rfl rfl), by decide +kernel, by decide +kernel, by decide +kernel⟩, (xtb 458 (by decide +kernel) (by decide +kernel)), (xtb 459 (by decide +kernel) (by decide +kernel)), ⟨_, _, rfl⟩, fun _ _ _ => rfl⟩
theorem xk6_193 : Cond.constant RX6 193 (39621 : Int32) ∈ xTB := (xtb 452 (by decide +kernel) (by decide +kernel))
theorem xf6_194 (o : Nat) : xFR RX6 194 3 0 o 19 o := ⟨⟨RX3, TX3, 11, tyX3, rfl, by decide, xin3, tyX3_ok, nmX3, (Or.inl (xtb 199 (by decide +kernel) (by decide +kernel))), fun _ _ _ => ⟨rfl, rfl⟩⟩, fun _ _ => rfl⟩
theorem xk9_7 : Cond.constant RL 7 (4194303 : Int32) ∈ xTB := (xtb 405 (by decide +kernel) (by decide +kernel))
theorem xc9_8 : xCV RL 8 6 yX6_count cX6_count 2 (some .int) 1 := ⟨⟨(Or.inl (xtb 409 (by decide +kernel) (by decide +kernel))), (xtb 17 (by decide +kernel) (by decide +kernel)), (xtb 412 rfl rfl), by decide +kernel, by decide +kernel, by decide +kernel⟩, (xtb 410 (by decide +kernel) (by decide +kernel)), (xtb 411 (by decide +kernel) (by decide +kernel)), ⟨_, _, rfl⟩, fun _ _ _ => rfl⟩
theorem xc9_14 : xCV RL 14 6 yX6_sign cX6_sign 2 (some .int) 1 := ⟨⟨(Or.inl (xtb 431 (by decide +kernel) (by decide +kernel))), (xtb 17 (by decide +kernel) (by decide +kernel)), (xtb 434 rfl rfl), by decide +kernel, by decide +kernel, by decide +kernel⟩, (xtb 432 (by decide +kernel) (by decide +kernel)), (xtb 433 (by decide +kernel) (by decide +kernel)), ⟨_, _, rfl⟩, fun _ _ _ => rfl⟩
theorem xc9_17 : xCV RL 17 6 yX6_ofCode cX6_ofCode 3 (some .int) 2 := ⟨⟨(Or.inl (xtb 417 (by decide +kernel) (by decide +kernel))), (xtb 17 (by decide +kernel) (by decide +kernel)), (xtb 420 rfl rfl), by decide +kernel, by decide +kernel, by decide +kernel⟩, (xtb 418 (by decide +kernel) (by decide +kernel)), (xtb 419 (by decide +kernel) (by decide +kernel)), ⟨_, _, rfl⟩, fun _ _ _ => rfl⟩
theorem xc9_21 : xCS RL 21 yL_bits cL_bits 2 (some .int) 1 := ⟨⟨(Or.inl (xtb 428 (by decide +kernel) (by decide +kernel))), (xtb 16 (by decide +kernel) (by decide +kernel)), (xtb 430 rfl rfl), by decide +kernel, by decide +kernel, by decide +kernel⟩, (xtb 429 (by decide +kernel) (by decide +kernel))⟩
theorem xc9_26 : xCS RL 26 yL_isAlike cL_isAlike 6 (some .boolean) 4 := ⟨⟨(Or.inl (xtb 435 (by decide +kernel) (by decide +kernel))), (xtb 16 (by decide +kernel) (by decide +kernel)), (xtb 437 rfl rfl), by decide +kernel, by decide +kernel, by decide +kernel⟩, (xtb 436 (by decide +kernel) (by decide +kernel))⟩
theorem xc9_30 : xCV RL 30 6 yX6_entry cX6_entry 3 (some .int) 2 := ⟨⟨(Or.inl (xtb 441 (by decide +kernel) (by decide +kernel))), (xtb 17 (by decide +kernel) (by decide +kernel)), (xtb 444 rfl rfl), by decide +kernel, by decide +kernel, by decide +kernel⟩, (xtb 442 (by decide +kernel) (by decide +kernel)), (xtb 443 (by decide +kernel) (by decide +kernel)), ⟨_, _, rfl⟩, fun _ _ _ => rfl⟩
theorem xc9_36 : xCV RL 36 6 yX6_reading cX6_reading 2 (some .int) 1 := ⟨⟨(Or.inl (xtb 453 (by decide +kernel) (by decide +kernel))), (xtb 17 (by decide +kernel) (by decide +kernel)), (xtb 456 rfl rfl), by decide +kernel, by decide +kernel, by decide +kernel⟩, (xtb 454 (by decide +kernel) (by decide +kernel)), (xtb 455 (by decide +kernel) (by decide +kernel)), ⟨_, _, rfl⟩, fun _ _ _ => rfl⟩
theorem xc9_33 : xCV RL 33 6 yX6_read cX6_read 2 (some .int) 1 := ⟨⟨(Or.inl (xtb 448 (by decide +kernel) (by decide +kernel))), (xtb 17 (by decide +kernel) (by decide +kernel)), (xtb 451 rfl rfl), by decide +kernel, by decide +kernel, by decide +kernel⟩, (xtb 449 (by decide +kernel) (by decide +kernel)), (xtb 450 (by decide +kernel) (by decide +kernel)), ⟨_, _, rfl⟩, fun _ _ _ => rfl⟩
theorem xc9_39 : xCS RL 39 yL_areCodes cL_areCodes 23 (some .boolean) 1 := ⟨⟨(Or.inl (xtb 425 (by decide +kernel) (by decide +kernel))), (xtb 16 (by decide +kernel) (by decide +kernel)), (xtb 427 rfl rfl), by decide +kernel, by decide +kernel, by decide +kernel⟩, (xtb 426 (by decide +kernel) (by decide +kernel))⟩
theorem xc9_43 : xCS RL 43 yL_areEntries cL_areEntries 5 (some .boolean) 1 := ⟨⟨(Or.inl (xtb 438 (by decide +kernel) (by decide +kernel))), (xtb 16 (by decide +kernel) (by decide +kernel)), (xtb 440 rfl rfl), by decide +kernel, by decide +kernel, by decide +kernel⟩, (xtb 439 (by decide +kernel) (by decide +kernel))⟩
theorem xc9_46 : xCS RL 46 yL_isRead cL_isRead 20 (some .boolean) 1 := ⟨⟨(Or.inl (xtb 445 (by decide +kernel) (by decide +kernel))), (xtb 16 (by decide +kernel) (by decide +kernel)), (xtb 447 rfl rfl), by decide +kernel, by decide +kernel, by decide +kernel⟩, (xtb 446 (by decide +kernel) (by decide +kernel))⟩
theorem xc9_49 : xCV RL 49 6 yX6_spoil cX6_spoil 3 (some .int) 2 := ⟨⟨(Or.inl (xtb 472 (by decide +kernel) (by decide +kernel))), (xtb 17 (by decide +kernel) (by decide +kernel)), (xtb 475 rfl rfl), by decide +kernel, by decide +kernel, by decide +kernel⟩, (xtb 473 (by decide +kernel) (by decide +kernel)), (xtb 474 (by decide +kernel) (by decide +kernel)), ⟨_, _, rfl⟩, fun _ _ _ => rfl⟩
theorem xc9_52 : xCS RL 52 yL_cell cL_cell 3 (some .int) 3 := ⟨⟨(Or.inl (xtb 402 (by decide +kernel) (by decide +kernel))), (xtb 16 (by decide +kernel) (by decide +kernel)), (xtb 404 rfl rfl), by decide +kernel, by decide +kernel, by decide +kernel⟩, (xtb 403 (by decide +kernel) (by decide +kernel))⟩
theorem xc9_65 : xCS RL 65 yL_isSpoiled cL_isSpoiled 5 (some .boolean) 3 := ⟨⟨(Or.inl (xtb 469 (by decide +kernel) (by decide +kernel))), (xtb 16 (by decide +kernel) (by decide +kernel)), (xtb 471 rfl rfl), by decide +kernel, by decide +kernel, by decide +kernel⟩, (xtb 470 (by decide +kernel) (by decide +kernel))⟩
theorem xc9_56 : xCV RL 56 6 yX6_add cX6_add 3 (some .int) 2 := ⟨⟨(Or.inl (xtb 397 (by decide +kernel) (by decide +kernel))), (xtb 17 (by decide +kernel) (by decide +kernel)), (xtb 400 rfl rfl), by decide +kernel, by decide +kernel, by decide +kernel⟩, (xtb 398 (by decide +kernel) (by decide +kernel)), (xtb 399 (by decide +kernel) (by decide +kernel)), ⟨_, _, rfl⟩, fun _ _ _ => rfl⟩
theorem xc9_59 : xCV RL 59 6 yX6_cut cX6_cut 2 (some .int) 1 := ⟨⟨(Or.inl (xtb 465 (by decide +kernel) (by decide +kernel))), (xtb 17 (by decide +kernel) (by decide +kernel)), (xtb 468 rfl rfl), by decide +kernel, by decide +kernel, by decide +kernel⟩, (xtb 466 (by decide +kernel) (by decide +kernel)), (xtb 467 (by decide +kernel) (by decide +kernel)), ⟨_, _, rfl⟩, fun _ _ _ => rfl⟩
theorem xc9_62 : xCV RL 62 6 yX6_set cX6_set 4 (some .int) 2 := ⟨⟨(Or.inl (xtb 368 (by decide +kernel) (by decide +kernel))), (xtb 17 (by decide +kernel) (by decide +kernel)), (xtb 371 rfl rfl), by decide +kernel, by decide +kernel, by decide +kernel⟩, (xtb 369 (by decide +kernel) (by decide +kernel)), (xtb 370 (by decide +kernel) (by decide +kernel)), ⟨_, _, rfl⟩, fun _ _ _ => rfl⟩
theorem xarI : Cond.arrayClass .int ∈ xTB := (xtb 66 (by decide +kernel) (by decide +kernel))
theorem xc9_70 : xCS RL 70 yL_agree cL_agree 3 (some .boolean) 1 := ⟨⟨(Or.inl (xtb 406 (by decide +kernel) (by decide +kernel))), (xtb 16 (by decide +kernel) (by decide +kernel)), (xtb 408 rfl rfl), by decide +kernel, by decide +kernel, by decide +kernel⟩, (xtb 407 (by decide +kernel) (by decide +kernel))⟩
theorem xc9_73 : xCS RL 73 yL_isAct cL_isAct 10 (some .boolean) 3 := ⟨⟨(Or.inl (xtb 462 (by decide +kernel) (by decide +kernel))), (xtb 16 (by decide +kernel) (by decide +kernel)), (xtb 464 rfl rfl), by decide +kernel, by decide +kernel, by decide +kernel⟩, (xtb 463 (by decide +kernel) (by decide +kernel))⟩
theorem xin_lt {i : Int32} {n : Nat} (h : vp_in i n) : i.toNatClampNeg < n := by
  rcases Nat.lt_or_ge i.toNatClampNeg n with q | q
  · exact q
  · exact absurd (Or.inr q) h
theorem xua_xua (S : xSt) (t o : Nat) (f g : Nat → Int32) : xua (xua S t o f) t o g = xua S t o g := by
  funext t' o'
  by_cases h : t' = t ∧ o' = o
  · simp only [xua, if_pos h]
  · simp only [xua, if_neg h]
theorem xua_same (S : xSt) (t o : Nat) : xua S t o (S t o) = S := by
  funext t' o'
  by_cases h : t' = t ∧ o' = o
  · obtain ⟨rfl, rfl⟩ := h
    simp [xua]
  · simp only [xua, if_neg h]
/-- how often a loop may go round -/
def xFU : Nat := 1000000
/-! java.util.Arrays.fill over a row of ints -/
def ffill2 (S : xSt) (t o n : Nat) (v : Int32) : Option xR := some (xua S t o (fun j => if j < n then v else S t o j), none)
def ffill4 (S : xSt) (t o n : Nat) (a b v : Int32) : Option xR := xne (a ≤ b ∧ 0 ≤ a ∧ b ≤ nI n) (some (xua S t o (fun j => if a.toNatClampNeg ≤ j ∧ j < b.toNatClampNeg then v else S t o j), none))
set_option maxRecDepth 100000 in
theorem cfill2 {l : Launch} {K : xK} {t o n : Nat} (hvc : xVC (xvl K)) (hV : (t, o) ∈ xvl K) (hE : ∀ f, xE K f t o = .inl (xcy K 0, n, .inl f)) {S : xSt} {v : Int32} {out : xR} (h : ffill2 S t o n v = some out) (hn : n < 2 ^ 31 := by decide) : xMet l K yJ7_fill_53178 cJ7_fill_53178 4 none 0 0 S [xr K t o, .int v] out := by
  refine xMet_of RJ7 (by decide +kernel) rfl hvc (Nat.le_of_ble_eq_true rfl) ?_
  intro X hX hM hR
  show xG K X S 0 [(0, xr K t o), (1, .int v)] []
  have h := Option.some.inj h
  refine g_iconst (v := nI 0) hX dJ7_fill_53178_0 (by decide) ?_
  refine g_istore_n (lv2 := [(2, .int (nI 0)), (0, xr K t o), (1, .int v)]) hX dJ7_fill_53178_1 rfl (by decide) rfl ?_
  refine g_aload_n hX dJ7_fill_53178_2 rfl 1 rfl ?_
  refine g_alen (q := 0) (v := nI n) (ty := .int) hX hV (hE _) rfl rfl dJ7_fill_53178_3 ?_
  refine g_istore_n (lv2 := [(3, .int (nI n)), (2, .int (nI 0)), (0, xr K t o), (1, .int v)]) hX dJ7_fill_53178_4 rfl (by decide) rfl ?_
  have L : ∀ d k, k + d = n → xG K X (xua S t o (fun j => if j < k then v else S t o j)) 5 [(2, .int (nI k)), (3, .int (nI n)), (0, xr K t o), (1, .int v)] [] := by
    intro d
    induction d with
    | zero =>
      intro k hk
      have hk : k = n := by omega
      subst hk
      refine g_iload_n hX dJ7_fill_53178_5 rfl 0 rfl ?_
      refine g_iload_n hX dJ7_fill_53178_6 rfl 1 rfl ?_
      refine g_icmp_ge hX 20 dJ7_fill_53178_7 (by decide) (fun _ => ?_) (fun hc => absurd (nI_le (Nat.le_refl k) hn) hc)
      exact g_vret hX hM h dJ7_fill_53178_20
    | succ d ih =>
      intro k hk
      refine g_iload_n hX dJ7_fill_53178_5 rfl 0 rfl ?_
      refine g_iload_n hX dJ7_fill_53178_6 rfl 1 rfl ?_
      refine g_icmp_ge hX 20 dJ7_fill_53178_7 (by decide) (fun hc => absurd hc (nI_ge (by omega) hn)) (fun _ => ?_)
      refine g_aload_n hX dJ7_fill_53178_10 rfl 2 rfl ?_
      refine g_iload_n hX dJ7_fill_53178_11 rfl 0 rfl ?_
      refine g_iload_n hX dJ7_fill_53178_12 rfl 3 rfl ?_
      refine g_iast (n := n) (S1 := xua S t o (fun j => if j < k + 1 then v else S t o j)) hX hV hE (vp_in_nI (by omega) hn) dJ7_fill_53178_13 ?_ ?_
      · rw [xup, xua_xua, xua_s, nI_clamp (by omega)]
        congr 1
        funext j
        simp only [upd]
        by_cases h1 : j = k
        · rw [if_pos h1, if_pos (by omega)]
        · rw [if_neg h1]
          by_cases h2 : j < k
          · rw [if_pos h2, if_pos (by omega)]
          · rw [if_neg h2, if_neg (by omega)]
      · refine g_iinc (v := nI (k + 1)) (lv2 := [(2, .int (nI (k + 1))), (3, .int (nI n)), (0, xr K t o), (1, .int v)]) hX dJ7_fill_53178_14 0 rfl (by rw [nI_succ]; rfl) (by decide) rfl ?_
        refine g_goto hX 5 dJ7_fill_53178_17 (by decide) ?_
        exact ih (k + 1) (by omega)
  have h0 := L n 0 (by omega)
  have e0 : xua S t o (fun j => if j < 0 then v else S t o j) = S := by
    have : (fun j => if j < 0 then v else S t o j) = S t o := by funext j; simp
    rw [this, xua_same]
  rw [e0] at h0
  exact g_sub [1, 0, 2, 3] rfl h0
set_option maxRecDepth 100000 in
theorem crange {l : Launch} {K : xK} (hvc : xVC (xvl K)) {S : xSt} {n a b : Int32} (h1 : a ≤ b) (h2 : 0 ≤ a) (h3 : b ≤ n) : xMet l K yJ7_rangeCheck_23922 cJ7_rangeCheck_23922 3 none 0 0 S [.int n, .int a, .int b] (S, none) := by
  refine xMet_of RJ7 (by decide +kernel) rfl hvc (Nat.le_of_ble_eq_true rfl) ?_
  intro X hX hM hR
  show xG K X S 0 [(0, .int n), (1, .int a), (2, .int b)] []
  refine g_iload_n hX dJ7_rangeCheck_23922_0 rfl 1 rfl ?_
  refine g_iload_n hX dJ7_rangeCheck_23922_1 rfl 2 rfl ?_
  refine g_icmp_le hX 46 dJ7_rangeCheck_23922_2 (by decide) (fun _ => ?_) (fun hc => absurd h1 hc)
  refine g_iload_n hX dJ7_rangeCheck_23922_46 rfl 1 rfl ?_
  refine g_if_ge hX 59 dJ7_rangeCheck_23922_47 (by decide) (fun _ => ?_) (fun hc => absurd h2 hc)
  refine g_iload_n hX dJ7_rangeCheck_23922_59 rfl 2 rfl ?_
  refine g_iload_n hX dJ7_rangeCheck_23922_60 rfl 0 rfl ?_
  refine g_icmp_le hX 73 dJ7_rangeCheck_23922_61 (by decide) (fun _ => ?_) (fun hc => absurd h3 hc)
  exact g_vret hX hM rfl dJ7_rangeCheck_23922_73
theorem xcJ7 : xCS RJ7 13 yJ7_rangeCheck_23922 cJ7_rangeCheck_23922 3 none 3 := ⟨⟨(Or.inl (xtb 257 (by decide +kernel) (by decide +kernel))), (xtb 24 (by decide +kernel) (by decide +kernel)), (xtb 259 rfl rfl), by decide +kernel, by decide +kernel, by decide +kernel⟩, (xtb 258 (by decide +kernel) (by decide +kernel))⟩
set_option maxRecDepth 100000 in
theorem cfill4 {l : Launch} {K : xK} {t o n : Nat} (hvc : xVC (xvl K)) (hV : (t, o) ∈ xvl K) (hE : ∀ f, xE K f t o = .inl (xcy K 0, n, .inl f)) {S : xSt} {a b v : Int32} {out : xR} (h : ffill4 S t o n a b v = some out) (hn : n < 2 ^ 31 := by decide) : xMet l K yJ7_fill_fda19 cJ7_fill_fda19 5 none 1 22 S [xr K t o, .int a, .int b, .int v] out := by
  refine xMet_of RJ7 (by decide +kernel) rfl hvc (Nat.le_of_ble_eq_true rfl) ?_
  intro X hX hM hR
  show xG K X S 0 [(0, xr K t o), (1, .int a), (2, .int b), (3, .int v)] []
  obtain ⟨⟨h1, h2, h3⟩, h⟩ := xne_inv h
  have h := Option.some.inj h
  obtain ⟨q, hq, rfl⟩ := nI_of2 (n := n) (nI_toInt hn) (fun hc => Int32.lt_irrefl (Int32.lt_of_lt_of_le hc (Int32.le_trans h2 h1))) h3
  obtain ⟨p, hp, rfl⟩ := nI_of2 (n := q) (nI_toInt (by omega)) (fun hc => Int32.lt_irrefl (Int32.lt_of_lt_of_le hc h2)) h1
  rw [nI_clamp (by omega), nI_clamp (by omega)] at h
  refine g_aload_n hX dJ7_fill_fda19_0 rfl 0 rfl ?_
  refine g_alen (q := 0) (v := nI n) (ty := .int) hX hV (hE _) rfl rfl dJ7_fill_fda19_1 ?_
  refine g_iload_n hX dJ7_fill_fda19_2 rfl 1 rfl ?_
  refine g_iload_n hX dJ7_fill_fda19_3 rfl 2 rfl ?_
  refine g_callS hX hR (fun l => crange (l := l) hX.vc h1 h2 h3) xcJ7 rfl ⟨by decide, by decide⟩ rfl rfl (Nat.le_of_ble_eq_true rfl) dJ7_fill_fda19_4 ?_
  refine g_iload_n hX dJ7_fill_fda19_7 rfl 1 rfl ?_
  refine g_istore (lv2 := [(4, .int (nI p)), (0, xr K t o), (1, .int (nI p)), (2, .int (nI q)), (3, .int v)]) hX dJ7_fill_fda19_8 (by decide) rfl ?_
  have L : ∀ d k, p ≤ k → k + d = q → xG K X (xua S t o (fun j => if p ≤ j ∧ j < k then v else S t o j)) 10 [(4, .int (nI k)), (0, xr K t o), (1, .int (nI p)), (2, .int (nI q)), (3, .int v)] [] := by
    intro d
    induction d with
    | zero =>
      intro k hpk hk
      have hk : k = q := by omega
      subst hk
      refine g_iload hX dJ7_fill_fda19_10 0 rfl ?_
      refine g_iload_n hX dJ7_fill_fda19_12 rfl 3 rfl ?_
      refine g_icmp_ge hX 27 dJ7_fill_fda19_13 (by decide) (fun _ => ?_) (fun hc => absurd (nI_le (Nat.le_refl k) (by omega)) hc)
      exact g_vret hX hM h dJ7_fill_fda19_27
    | succ d ih =>
      intro k hpk hk
      refine g_iload hX dJ7_fill_fda19_10 0 rfl ?_
      refine g_iload_n hX dJ7_fill_fda19_12 rfl 3 rfl ?_
      refine g_icmp_ge hX 27 dJ7_fill_fda19_13 (by decide) (fun hc => absurd hc (nI_ge (by omega) (by omega))) (fun _ => ?_)
      refine g_aload_n hX dJ7_fill_fda19_16 rfl 1 rfl ?_
      refine g_iload hX dJ7_fill_fda19_17 0 rfl ?_
      refine g_iload_n hX dJ7_fill_fda19_19 rfl 4 rfl ?_
      refine g_iast (n := n) (S1 := xua S t o (fun j => if p ≤ j ∧ j < k + 1 then v else S t o j)) hX hV hE (vp_in_nI (by omega) hn) dJ7_fill_fda19_20 ?_ ?_
      · rw [xup, xua_xua, xua_s, nI_clamp (by omega)]
        congr 1
        funext j
        simp only [upd]
        by_cases h1 : j = k
        · rw [if_pos h1, if_pos (by omega)]
        · rw [if_neg h1]
          by_cases h2 : p ≤ j ∧ j < k
          · rw [if_pos h2, if_pos (by omega)]
          · rw [if_neg h2, if_neg (by omega)]
      · refine g_iinc (v := nI (k + 1)) (lv2 := [(4, .int (nI (k + 1))), (0, xr K t o), (1, .int (nI p)), (2, .int (nI q)), (3, .int v)]) hX dJ7_fill_fda19_21 0 rfl (by rw [nI_succ]; rfl) (by decide) rfl ?_
        refine g_goto hX 10 dJ7_fill_fda19_24 (by decide) ?_
        exact ih (k + 1) (by omega) (by omega)
  have h0 := L (q - p) p (Nat.le_refl p) (by omega)
  have e0 : xua S t o (fun j => if p ≤ j ∧ j < p then v else S t o j) = S := by
    have : (fun j => if p ≤ j ∧ j < p then v else S t o j) = S t o := by
      funext j
      rw [if_neg (by omega)]
    rw [this, xua_same]
  rw [e0] at h0
  exact h0
