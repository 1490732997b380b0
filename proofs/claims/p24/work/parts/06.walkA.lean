set_option maxRecDepth 100000 in
theorem c6_copyState {l : Launch} {K : xK} {o1 : Nat} {o2 : Nat} (hvc : xVC (xvl K)) (hV1 : (4, o1) ∈ xvl K) (hV2 : (4, o2) ∈ xvl K) {S : xSt}  {out : xR} (h : f6_copyState S o1 o2  = some out) : xMet l K yX6_copyState cX6_copyState 2 none 1 18 S [xr K 4 o1, xr K 4 o2] out := by
  refine xMet_of RX6 (by decide +kernel) rfl hvc (Nat.le_of_ble_eq_true rfl) ?_
  intro X hX hM hR
  show xG K X S 0 [(0, xr K 4 o1), (1, xr K 4 o2)] []
  unfold f6_copyState at h
  refine g_aload_n hX dX6_copyState_0 rfl 0 rfl ?_
  refine g_ifnull hX dX6_copyState_1 ?_
  refine g_aload_n hX dX6_copyState_4 rfl 1 rfl ?_
  refine g_ifnonnull hX 9 dX6_copyState_5 (by decide) ?_
  refine g_aload_n hX dX6_copyState_9 rfl 0 rfl ?_
  refine g_getR hX hV1 (xf6_76 _) dX6_copyState_10 ?_
  refine g_iconst (v := (0 : Int32)) hX dX6_copyState_13 (by decide) ?_
  refine g_aload_n hX dX6_copyState_14 rfl 1 rfl ?_
  refine g_getR hX hV2 (xf6_76 _) dX6_copyState_15 ?_
  refine g_iconst (v := (0 : Int32)) hX dX6_copyState_18 (by decide) ?_
  refine g_aload_n hX dX6_copyState_19 rfl 0 rfl ?_
  refine g_getR hX hV1 (xf6_76 _) dX6_copyState_20 ?_
  refine g_alen (q := 0) (v := (3 : Int32)) hX (xvc_4_0 hX.vc hV1) rfl rfl (by show Int32.ofNat 3 = _; decide) dX6_copyState_23 ?_
  obtain ⟨hn, h⟩ := xne_inv h
  obtain ⟨S1, eS1, h⟩ := xlet_inv h
  refine g_copy hX hR (by decide) (Nat.le_of_ble_eq_true rfl) xm6_121 xcp_n xcp_s xcp_i (xvc_4_0 hX.vc hV1) (xvc_4_0 hX.vc hV2) (fun _ => rfl) (fun _ => rfl) hn dX6_copyState_24 eS1 ?_
  refine g_aload_n hX dX6_copyState_27 rfl 0 rfl ?_
  refine g_getR hX hV1 (xf6_86 _) dX6_copyState_28 ?_
  refine g_iconst (v := (0 : Int32)) hX dX6_copyState_31 (by decide) ?_
  refine g_aload_n hX dX6_copyState_32 rfl 1 rfl ?_
  refine g_getR hX hV2 (xf6_86 _) dX6_copyState_33 ?_
  refine g_iconst (v := (0 : Int32)) hX dX6_copyState_36 (by decide) ?_
  refine g_sipush (v := (240 : Int32)) hX dX6_copyState_37 (by decide) ?_
  obtain ⟨hn, h⟩ := xne_inv h
  obtain ⟨S2, eS2, h⟩ := xlet_inv h
  refine g_copy hX hR (by decide) (Nat.le_of_ble_eq_true rfl) xm6_121 xcp_n xcp_s xcp_i (xvc_4_1 hX.vc hV1) (xvc_4_1 hX.vc hV2) (fun _ => rfl) (fun _ => rfl) hn dX6_copyState_40 eS2 ?_
  refine g_aload_n hX dX6_copyState_43 rfl 0 rfl ?_
  refine g_getR hX hV1 (xf6_99 _) dX6_copyState_44 ?_
  refine g_iconst (v := (0 : Int32)) hX dX6_copyState_47 (by decide) ?_
  refine g_aload_n hX dX6_copyState_48 rfl 1 rfl ?_
  refine g_getR hX hV2 (xf6_99 _) dX6_copyState_49 ?_
  refine g_iconst (v := (0 : Int32)) hX dX6_copyState_52 (by decide) ?_
  refine g_sipush (v := (281 : Int32)) hX dX6_copyState_53 (by decide) ?_
  obtain ⟨hn, h⟩ := xne_inv h
  obtain ⟨S3, eS3, h⟩ := xlet_inv h
  refine g_copy hX hR (by decide) (Nat.le_of_ble_eq_true rfl) xm6_121 xcp_n xcp_s xcp_i (xvc_4_2 hX.vc hV1) (xvc_4_2 hX.vc hV2) (fun _ => rfl) (fun _ => rfl) hn dX6_copyState_56 eS3 ?_
  refine g_aload_n hX dX6_copyState_59 rfl 1 rfl ?_
  refine g_aload_n hX dX6_copyState_60 rfl 0 rfl ?_
  refine g_getI hX hV1 xf6_82 dX6_copyState_61 ?_
  obtain ⟨S4, eS4, h⟩ := xlet_inv h
  refine g_putI hX hV2 xf6_82 dX6_copyState_64 eS4 ?_
  exact g_vret hX hM (Option.some.inj h) dX6_copyState_67
set_option maxRecDepth 100000 in
theorem c4_mendCodes {l : Launch} {K : xK} {o : Nat} (hvc : xVC (xvl K)) (hV : (4, o) ∈ xvl K) {S : xSt}  {out : xR} (h : f4_mendCodes S o  = some out) : xMet l K yX4_mendCodes cX4_mendCodes 1 none 1 23 S [xr K 4 o] out := by
  refine xMet_of RX4 (by decide +kernel) rfl hvc (Nat.le_of_ble_eq_true rfl) ?_
  intro X hX hM hR
  show xG K X S 0 [(0, xr K 4 o)] []
  unfold f4_mendCodes at h
  refine g_aload_n hX dX4_mendCodes_0 rfl 0 rfl ?_
  refine g_getR hX hV (xf4_26 _) dX4_mendCodes_1 ?_
  refine g_iconst (v := (0 : Int32)) hX dX4_mendCodes_4 (by decide) ?_
  obtain ⟨S1, hcS1, h⟩ := xbV_inv h
  refine g_callS hX hR (fun l => cfill2 (l := l) hX.vc (xvc_4_2 hX.vc hV) (fun _ => rfl) hcS1) xc4_29 rfl ⟨by decide, by decide⟩ rfl rfl (Nat.le_of_ble_eq_true rfl) dX4_mendCodes_5 ?_
  exact g_vret hX hM (Option.some.inj h) dX4_mendCodes_8
set_option maxRecDepth 100000 in
theorem c0_dropPhrases {l : Launch} {K : xK} {o : Nat} (hvc : xVC (xvl K)) (hV : (0, o) ∈ xvl K) {S : xSt}  {out : xR} (h : f0_dropPhrases S o  = some out) : xMet l K yX0_dropPhrases cX0_dropPhrases 1 none 2 46 S [xr K 0 o] out := by
  refine xMet_of RX0 (by decide +kernel) rfl hvc (Nat.le_of_ble_eq_true rfl) ?_
  intro X hX hM hR
  show xG K X S 0 [(0, xr K 0 o)] []
  unfold f0_dropPhrases at h
  refine g_aload_n hX dX0_dropPhrases_0 rfl 0 rfl ?_
  refine g_bipush (v := (10 : Int32)) hX dX0_dropPhrases_1 (by decide) ?_
  obtain ⟨S1, eS1, h⟩ := xlet_inv h
  refine g_putI hX hV xf0_24 dX0_dropPhrases_3 eS1 ?_
  refine g_aload_n hX dX0_dropPhrases_6 rfl 0 rfl ?_
  refine g_getR hX hV (xf0_21 _) dX0_dropPhrases_7 ?_
  refine g_iconst (v := (0 : Int32)) hX dX0_dropPhrases_10 (by decide) ?_
  refine g_bipush (v := (80 : Int32)) hX dX0_dropPhrases_11 (by decide) ?_
  refine g_iconst (v := (0 : Int32)) hX dX0_dropPhrases_13 (by decide) ?_
  obtain ⟨S2, hcS2, h⟩ := xbV_inv h
  refine g_callS hX hR (fun l => cfill4 (l := l) hX.vc (xvc_0_3 hX.vc hV) (fun _ => rfl) hcS2) xc0_28 rfl ⟨by decide, by decide⟩ rfl rfl (Nat.le_of_ble_eq_true rfl) dX0_dropPhrases_14 ?_
  exact g_vret hX hM (Option.some.inj h) dX0_dropPhrases_17
set_option maxRecDepth 100000 in
theorem c5_begin {l : Launch} {K : xK} {o : Nat} (hvc : xVC (xvl K)) (hV : (5, o) ∈ xvl K) {S : xSt} {a1 : Int32} {out : xR} (h : f5_begin S o a1 = some out) : xMet l K yX5_begin cX5_begin 2 none 3 66 S [xr K 5 o, .int a1] out := by
  refine xMet_of RX5 (by decide +kernel) rfl hvc (Nat.le_of_ble_eq_true rfl) ?_
  intro X hX hM hR
  show xG K X S 0 [(0, xr K 5 o), (1, .int a1)] []
  unfold f5_begin at h
  refine g_aload_n hX dX5_begin_0 rfl 0 rfl ?_
  refine g_getR hX hV (xf5_12 _) dX5_begin_1 ?_
  obtain ⟨S1, hcS1, h⟩ := xbV_inv h
  refine g_callV hX hR (xvc_5_0 hX.vc hV) (fun l => c0_dropPhrases (l := l) hX.vc (xvc_5_0 hX.vc hV) hcS1) xc5_59 rfl ⟨by decide, by decide⟩ rfl rfl (Nat.le_of_ble_eq_true rfl) dX5_begin_4 ?_
  refine g_aload_n hX dX5_begin_7 rfl 0 rfl ?_
  refine g_iconst (v := (1 : Int32)) hX dX5_begin_8 (by decide) ?_
  refine g_iload_n hX dX5_begin_9 rfl 1 rfl ?_
  refine g_ishl hX dX5_begin_10 ?_
  obtain ⟨S2, eS2, h⟩ := xlet_inv h
  refine g_putI hX hV xf5_62 dX5_begin_11 eS2 ?_
  refine g_aload_n hX dX5_begin_14 rfl 0 rfl ?_
  refine g_iconst (v := (0 : Int32)) hX dX5_begin_15 (by decide) ?_
  obtain ⟨S3, eS3, h⟩ := xlet_inv h
  refine g_putI hX hV xf5_65 dX5_begin_16 eS3 ?_
  refine g_aload_n hX dX5_begin_19 rfl 0 rfl ?_
  refine g_iconst (v := (0 : Int32)) hX dX5_begin_20 (by decide) ?_
  obtain ⟨S4, eS4, h⟩ := xlet_inv h
  refine g_putI hX hV xf5_68 dX5_begin_21 eS4 ?_
  refine g_aload_n hX dX5_begin_24 rfl 0 rfl ?_
  refine g_iconst (v := (0 : Int32)) hX dX5_begin_25 (by decide) ?_
  obtain ⟨S5, eS5, h⟩ := xlet_inv h
  refine g_putI hX hV xf5_55 dX5_begin_26 eS5 ?_
  refine g_aload_n hX dX5_begin_29 rfl 0 rfl ?_
  refine g_iconst (v := (0 : Int32)) hX dX5_begin_30 (by decide) ?_
  obtain ⟨S6, eS6, h⟩ := xlet_inv h
  refine g_putI hX hV xf5_71 dX5_begin_31 eS6 ?_
  exact g_vret hX hM (Option.some.inj h) dX5_begin_34
set_option maxRecDepth 100000 in
theorem sb5_bitsOf_L6 {K : xK} {X : xX} {out : xR}  (hX : xOK K X RX5 cX5_bitsOf 2) (hM : xM K X out (some .int)) (hR : xRm X 0 0)   {k6 : xSt → Int32 → Int32 → Option xR} (hk6 : ∀ (S : xSt) (i0 : Int32) (i1 : Int32), k6 S i0 i1 = some out → xG K X S 6 [(0, .int i0), (1, .int i1)] []) {S : xSt} {i0 : Int32} {i1 : Int32} (h : b5_bitsOf_L6   k6 S i0 i1 = some out) : xG K X S 6 [(0, .int i0), (1, .int i1)] [] := by
  unfold b5_bitsOf_L6 at h
  refine g_iload_n hX dX5_bitsOf_6 rfl 1 rfl ?_
  refine g_gets (k := 1) hX (by decide) xf5_84 dX5_bitsOf_7 ?_
  refine g_iconst (v := (0 : Int32)) hX dX5_bitsOf_10 (by decide) ?_
  obtain ⟨hbj1, h⟩ := xat_inv h
  refine g_ialdS hX (by decide) hbj1 dX5_bitsOf_11 ?_
  refine g_icmp_ge hX 27 dX5_bitsOf_12 (by decide) (fun hc => ?_) (fun hc => ?_)
  · have h := xif_t hc h
    refine g_iload_n hX dX5_bitsOf_27 rfl 1 rfl ?_
    exact g_iret hX hM (Option.some.inj h) dX5_bitsOf_28
  · have h := xif_f hc h
    refine g_iload_n hX dX5_bitsOf_15 rfl 0 rfl ?_
    refine g_iload_n hX dX5_bitsOf_16 rfl 1 rfl ?_
    refine g_ishr hX dX5_bitsOf_17 ?_
    refine g_if_eq hX 27 dX5_bitsOf_18 (by decide) (fun hc => ?_) (fun hc => ?_)
    · have h := xif_t hc h
      refine g_iload_n hX dX5_bitsOf_27 rfl 1 rfl ?_
      exact g_iret hX hM (Option.some.inj h) dX5_bitsOf_28
    · have h := xif_f hc h
      refine g_iinc (v := (i1 + (1 : Int32))) (lv2 := [(1, .int (i1 + (1 : Int32))), (0, .int i0)]) hX dX5_bitsOf_21 1 rfl rfl (by decide) rfl ?_
      refine g_goto hX 6 dX5_bitsOf_24 (by decide) ?_
      exact g_sub [1, 0] (by rfl) (hk6 _ _ _ h)
theorem sf5_bitsOf_L6 {K : xK} {X : xX} {out : xR}  (hX : xOK K X RX5 cX5_bitsOf 2) (hM : xM K X out (some .int)) (hR : xRm X 0 0)   : ∀ (n : Nat) (S : xSt) (i0 : Int32) (i1 : Int32) (h : f5_bitsOf_L6   n S i0 i1 = some out), xG K X S 6 [(0, .int i0), (1, .int i1)] [] := by
  intro n
  induction n with
  | zero => intro S i0 i1 h; cases h
  | succ n ih => intro S i0 i1 h; exact sb5_bitsOf_L6 hX hM hR   ih h
set_option maxRecDepth 100000 in
theorem c5_bitsOf {l : Launch} {K : xK}  (hvc : xVC (xvl K))  {S : xSt} {a0 : Int32} {out : xR} (h : f5_bitsOf S  a0 = some out) : xMet l K yX5_bitsOf cX5_bitsOf 2 (some .int) 0 0 S [.int a0] out := by
  refine xMet_of RX5 (by decide +kernel) rfl hvc (Nat.le_of_ble_eq_true rfl) ?_
  intro X hX hM hR
  show xG K X S 0 [(0, .int a0)] []
  unfold f5_bitsOf at h
  refine g_gets (k := 0) hX (by decide) xf5_81 dX5_bitsOf_0 ?_
  refine g_iconst (v := (0 : Int32)) hX dX5_bitsOf_3 (by decide) ?_
  obtain ⟨hbj1, h⟩ := xat_inv h
  refine g_ialdS hX (by decide) hbj1 dX5_bitsOf_4 ?_
  refine g_istore_n (lv2 := [(1, .int (xSf 0 ((0 : Int32)).toNatClampNeg)), (0, .int a0)]) hX dX5_bitsOf_5 rfl (by decide) rfl ?_
  exact g_sub [1, 0] (by rfl) (sf5_bitsOf_L6 hX hM hR _ _ _ _ h)
set_option maxRecDepth 100000 in
theorem c5_writeCode {l : Launch} {K : xK} {o : Nat} (hvc : xVC (xvl K)) (hV : (5, o) ∈ xvl K) {S : xSt} {a1 : Int32} {a2 : Int32} {a3 : Int32} {out : xR} (h : f5_writeCode S o a1 a2 a3 = some out) : xMet l K yX5_writeCode cX5_writeCode 5 none 1 21 S [xr K 5 o, .int a1, .int a2, .int a3] out := by
  refine xMet_of RX5 (by decide +kernel) rfl hvc (Nat.le_of_ble_eq_true rfl) ?_
  intro X hX hM hR
  show xG K X S 0 [(0, xr K 5 o), (1, .int a1), (2, .int a2), (3, .int a3)] []
  unfold f5_writeCode at h
  refine g_aload_n hX dX5_writeCode_0 rfl 0 rfl ?_
  refine g_getI hX hV xf5_65 dX5_writeCode_1 ?_
  refine g_sipush (v := (281 : Int32)) hX dX5_writeCode_4 (by decide) ?_
  refine g_icmp_lt hX 11 dX5_writeCode_7 (by decide) (fun hc => ?_) (fun hc => ?_)
  · have h := xif_t hc h
    refine g_aload_n hX dX5_writeCode_11 rfl 0 rfl ?_
    refine g_getR hX hV (xf5_12 _) dX5_writeCode_12 ?_
    refine g_getI hX (xvc_5_0 hX.vc hV) xf5_74 dX5_writeCode_15 ?_
    refine g_iconst (v := (1 : Int32)) hX dX5_writeCode_18 (by decide) ?_
    refine g_isub hX dX5_writeCode_19 ?_
    obtain ⟨S1, r2, hcS1, h⟩ := xbI_inv h
    refine g_callS hX hR (fun l => c5_bitsOf (l := l) hX.vc hcS1) xc5_77 rfl ⟨by decide, by decide⟩ rfl rfl (Nat.le_of_ble_eq_true rfl) dX5_writeCode_20 ?_
    refine g_istore (lv2 := [(4, .int r2), (0, xr K 5 o), (1, .int a1), (2, .int a2), (3, .int a3)]) hX dX5_writeCode_23 (by decide) rfl ?_
    refine g_aload_n hX dX5_writeCode_25 rfl 1 rfl ?_
    refine g_getR hX hV (xf5_18 _) dX5_writeCode_26 ?_
    refine g_aload_n hX dX5_writeCode_29 rfl 1 rfl ?_
    refine g_getI hX hV xf5_65 dX5_writeCode_30 ?_
    refine g_iload_n hX dX5_writeCode_33 rfl 2 rfl ?_
    obtain ⟨hbj3, h⟩ := xat_inv h
    obtain ⟨S4, eS4, h⟩ := xlet_inv h
    refine g_iast (n := 281) hX (xvc_5_1 hX.vc hV) (fun _ => rfl) hbj3 dX5_writeCode_34 eS4 ?_
    refine g_aload_n hX dX5_writeCode_35 rfl 1 rfl ?_
    refine g_getR hX hV (xf5_22 _) dX5_writeCode_36 ?_
    refine g_aload_n hX dX5_writeCode_39 rfl 1 rfl ?_
    refine g_getI hX hV xf5_65 dX5_writeCode_40 ?_
    refine g_iload hX dX5_writeCode_43 0 rfl ?_
    obtain ⟨hbj5, h⟩ := xat_inv h
    obtain ⟨S6, eS6, h⟩ := xlet_inv h
    refine g_iast (n := 281) hX (xvc_5_2 hX.vc hV) (fun _ => rfl) hbj5 dX5_writeCode_45 eS6 ?_
    refine g_aload_n hX dX5_writeCode_46 rfl 1 rfl ?_
    refine g_getR hX hV (xf5_25 _) dX5_writeCode_47 ?_
    refine g_aload_n hX dX5_writeCode_50 rfl 1 rfl ?_
    refine g_getI hX hV xf5_65 dX5_writeCode_51 ?_
    refine g_iload_n hX dX5_writeCode_54 rfl 3 rfl ?_
    obtain ⟨hbj7, h⟩ := xat_inv h
    obtain ⟨S8, eS8, h⟩ := xlet_inv h
    refine g_iast (n := 281) hX (xvc_5_3 hX.vc hV) (fun _ => rfl) hbj7 dX5_writeCode_55 eS8 ?_
    refine g_aload_n hX dX5_writeCode_56 rfl 1 rfl ?_
    refine g_getR hX hV (xf5_28 _) dX5_writeCode_57 ?_
    refine g_aload_n hX dX5_writeCode_60 rfl 1 rfl ?_
    refine g_getI hX hV xf5_65 dX5_writeCode_61 ?_
    refine g_iload_n hX dX5_writeCode_64 rfl 4 rfl ?_
    obtain ⟨hbj9, h⟩ := xat_inv h
    obtain ⟨S10, eS10, h⟩ := xlet_inv h
    refine g_iast (n := 281) hX (xvc_5_4 hX.vc hV) (fun _ => rfl) hbj9 dX5_writeCode_65 eS10 ?_
    refine g_aload_n hX dX5_writeCode_66 rfl 1 rfl ?_
    refine g_getR hX hV (xf5_31 _) dX5_writeCode_67 ?_
    refine g_aload_n hX dX5_writeCode_70 rfl 1 rfl ?_
    refine g_getI hX hV xf5_65 dX5_writeCode_71 ?_
    refine g_aload_n hX dX5_writeCode_74 rfl 1 rfl ?_
    refine g_getR hX hV (xf5_12 _) dX5_writeCode_75 ?_
    refine g_getI hX (xvc_5_0 hX.vc hV) xf5_74 dX5_writeCode_78 ?_
    obtain ⟨hbj11, h⟩ := xat_inv h
    obtain ⟨S12, eS12, h⟩ := xlet_inv h
    refine g_iast (n := 281) hX (xvc_5_5 hX.vc hV) (fun _ => rfl) hbj11 dX5_writeCode_81 eS12 ?_
    refine g_aload_n hX dX5_writeCode_82 rfl 1 rfl ?_
    refine g_dup hX dX5_writeCode_83 rfl ?_
    refine g_getI hX hV xf5_68 dX5_writeCode_84 ?_
    refine g_iload hX dX5_writeCode_87 0 rfl ?_
    refine g_iadd hX dX5_writeCode_89 ?_
    obtain ⟨S13, eS13, h⟩ := xlet_inv h
    refine g_putI hX hV xf5_68 dX5_writeCode_90 eS13 ?_
    refine g_aload_n hX dX5_writeCode_93 rfl 1 rfl ?_
    refine g_dup hX dX5_writeCode_94 rfl ?_
    refine g_getI hX hV xf5_65 dX5_writeCode_95 ?_
    refine g_iconst (v := (1 : Int32)) hX dX5_writeCode_98 (by decide) ?_
    refine g_iadd hX dX5_writeCode_99 ?_
    obtain ⟨S14, eS14, h⟩ := xlet_inv h
    refine g_putI hX hV xf5_65 dX5_writeCode_100 eS14 ?_
    exact g_vret hX hM (Option.some.inj h) dX5_writeCode_103
  · have h := xif_f hc h
    exact g_vret hX hM (Option.some.inj h) dX5_writeCode_10
set_option maxRecDepth 100000 in
theorem sb0_longestAt_L10 {K : xK} {X : xX} {out : xR} {o : Nat} {o1 : Nat} (hX : xOK K X RX0 cX0_longestAt 7) (hM : xM K X out (some .int)) (hR : xRm X 0 0) (hV : (0, o) ∈ xvl K) (hV1 : (23, o1) ∈ xvl K)  {k10 : xSt → Int32 → Int32 → Int32 → Option xR} (hk10 : ∀ (S : xSt) (i3 : Int32) (i4 : Int32) (i5 : Int32), k10 S i3 i4 i5 = some out → xG K X S 10 [(0, xr K 0 o), (1, xr K 23 o1), (3, .int i3), (4, .int i4), (5, .int i5)] []) {S : xSt} {i3 : Int32} {i4 : Int32} {i5 : Int32} (h : b0_longestAt_L10 o o1  k10 S i3 i4 i5 = some out) : xG K X S 10 [(0, xr K 0 o), (1, xr K 23 o1), (3, .int i3), (4, .int i4), (5, .int i5)] [] := by
  unfold b0_longestAt_L10 at h
  refine g_iload hX dX0_longestAt_10 4 rfl ?_
  refine g_iload_n hX dX0_longestAt_12 rfl 2 rfl ?_
  refine g_icmp_ge hX 51 dX0_longestAt_13 (by decide) (fun hc => ?_) (fun hc => ?_)
  · have h := xif_t hc h
    refine g_iload hX dX0_longestAt_51 3 rfl ?_
    exact g_iret hX hM (Option.some.inj h) dX0_longestAt_53
  · have h := xif_f hc h
    refine g_aload_n hX dX0_longestAt_16 rfl 0 rfl ?_
    refine g_getR hX hV (xf0_21 _) dX0_longestAt_17 ?_
    refine g_iload hX dX0_longestAt_20 3 rfl ?_
    refine g_bipush (v := (8 : Int32)) hX dX0_longestAt_22 (by decide) ?_
    refine g_imul hX dX0_longestAt_24 ?_
    refine g_aload_n hX dX0_longestAt_25 rfl 1 rfl ?_
    refine g_iload hX dX0_longestAt_26 4 rfl ?_
    obtain ⟨hbj1, h⟩ := xat_inv h
    refine g_iald (n := 240) hX hV1 rfl hbj1 dX0_longestAt_28 ?_
    refine g_iadd hX dX0_longestAt_29 ?_
    obtain ⟨hbj2, h⟩ := xat_inv h
    refine g_iald (n := 4096) hX (xvc_0_3 hX.vc hV) rfl hbj2 dX0_longestAt_30 ?_
    refine g_istore (lv2 := [(6, .int (S 13 o (((i4 * (8 : Int32)) + (S 23 o1 (i5).toNatClampNeg))).toNatClampNeg)), (0, xr K 0 o), (1, xr K 23 o1), (3, .int i3), (4, .int i4), (5, .int i5)]) hX dX0_longestAt_31 (by decide) rfl ?_
    refine g_iload hX dX0_longestAt_33 0 rfl ?_
    refine g_if_ne hX 41 dX0_longestAt_35 (by decide) (fun hc => ?_) (fun hc => ?_)
    · have h := xif_f hc h
      refine g_iload hX dX0_longestAt_41 0 rfl ?_
      refine g_istore (lv2 := [(4, .int (S 13 o (((i4 * (8 : Int32)) + (S 23 o1 (i5).toNatClampNeg))).toNatClampNeg)), (6, .int (S 13 o (((i4 * (8 : Int32)) + (S 23 o1 (i5).toNatClampNeg))).toNatClampNeg)), (0, xr K 0 o), (1, xr K 23 o1), (3, .int i3), (5, .int i5)]) hX dX0_longestAt_43 (by decide) rfl ?_
      refine g_iinc (v := (i5 + (1 : Int32))) (lv2 := [(5, .int (i5 + (1 : Int32))), (4, .int (S 13 o (((i4 * (8 : Int32)) + (S 23 o1 (i5).toNatClampNeg))).toNatClampNeg)), (6, .int (S 13 o (((i4 * (8 : Int32)) + (S 23 o1 (i5).toNatClampNeg))).toNatClampNeg)), (0, xr K 0 o), (1, xr K 23 o1), (3, .int i3)]) hX dX0_longestAt_45 5 rfl rfl (by decide) rfl ?_
      refine g_goto hX 10 dX0_longestAt_48 (by decide) ?_
      exact g_sub [3, 4, 5, 1, 0] (by rfl) (hk10 _ _ _ _ h)
    · have h := xif_t hc h
      refine g_iload hX dX0_longestAt_38 4 rfl ?_
      exact g_iret hX hM (Option.some.inj h) dX0_longestAt_40
theorem sf0_longestAt_L10 {K : xK} {X : xX} {out : xR} {o : Nat} {o1 : Nat} (hX : xOK K X RX0 cX0_longestAt 7) (hM : xM K X out (some .int)) (hR : xRm X 0 0) (hV : (0, o) ∈ xvl K) (hV1 : (23, o1) ∈ xvl K)  : ∀ (n : Nat) (S : xSt) (i3 : Int32) (i4 : Int32) (i5 : Int32) (h : f0_longestAt_L10 o o1  n S i3 i4 i5 = some out), xG K X S 10 [(0, xr K 0 o), (1, xr K 23 o1), (3, .int i3), (4, .int i4), (5, .int i5)] [] := by
  intro n
  induction n with
  | zero => intro S i3 i4 i5 h; cases h
  | succ n ih => intro S i3 i4 i5 h; exact sb0_longestAt_L10 hX hM hR hV hV1  ih h
set_option maxRecDepth 100000 in
theorem c0_longestAt {l : Launch} {K : xK} {o : Nat} {o1 : Nat} (hvc : xVC (xvl K)) (hV : (0, o) ∈ xvl K) (hV1 : (23, o1) ∈ xvl K) {S : xSt} {a2 : Int32} {a3 : Int32} {out : xR} (h : f0_longestAt S o o1 a2 a3 = some out) : xMet l K yX0_longestAt cX0_longestAt 7 (some .int) 0 0 S [xr K 0 o, xr K 23 o1, .int a2, .int a3] out := by
  refine xMet_of RX0 (by decide +kernel) rfl hvc (Nat.le_of_ble_eq_true rfl) ?_
  intro X hX hM hR
  show xG K X S 0 [(0, xr K 0 o), (1, xr K 23 o1), (2, .int a2), (3, .int a3)] []
  unfold f0_longestAt at h
  refine g_aload_n hX dX0_longestAt_0 rfl 1 rfl ?_
  refine g_iload_n hX dX0_longestAt_1 rfl 2 rfl ?_
  obtain ⟨hbj1, h⟩ := xat_inv h
  refine g_iald (n := 240) hX hV1 rfl hbj1 dX0_longestAt_2 ?_
  refine g_istore (lv2 := [(4, .int (S 23 o1 (a2).toNatClampNeg)), (0, xr K 0 o), (1, xr K 23 o1), (2, .int a2), (3, .int a3)]) hX dX0_longestAt_3 (by decide) rfl ?_
  refine g_iload_n hX dX0_longestAt_5 rfl 3 rfl ?_
  refine g_iconst (v := (1 : Int32)) hX dX0_longestAt_6 (by decide) ?_
  refine g_iadd hX dX0_longestAt_7 ?_
  refine g_istore (lv2 := [(5, .int (a2 + (1 : Int32))), (4, .int (S 23 o1 (a2).toNatClampNeg)), (0, xr K 0 o), (1, xr K 23 o1), (2, .int a2), (3, .int a3)]) hX dX0_longestAt_8 (by decide) rfl ?_
  exact g_sub [2, 3, 5, 1, 0] (by rfl) (sf0_longestAt_L10 hX hM hR hV hV1 _ _ _ _ _ h)
set_option maxRecDepth 100000 in
theorem c0_addPhrase {l : Launch} {K : xK} {o : Nat} (hvc : xVC (xvl K)) (hV : (0, o) ∈ xvl K) {S : xSt} {a1 : Int32} {a2 : Int32} {out : xR} (h : f0_addPhrase S o a1 a2 = some out) : xMet l K yX0_addPhrase cX0_addPhrase 3 none 2 46 S [xr K 0 o, .int a1, .int a2] out := by
  refine xMet_of RX0 (by decide +kernel) rfl hvc (Nat.le_of_ble_eq_true rfl) ?_
  intro X hX hM hR
  show xG K X S 0 [(0, xr K 0 o), (1, .int a1), (2, .int a2)] []
  unfold f0_addPhrase at h
  refine g_aload_n hX dX0_addPhrase_0 rfl 0 rfl ?_
  refine g_getI hX hV xf0_24 dX0_addPhrase_1 ?_
  refine g_sipush (v := (512 : Int32)) hX dX0_addPhrase_4 (by decide) ?_
  refine g_icmp_lt hX 11 dX0_addPhrase_7 (by decide) (fun hc => ?_) (fun hc => ?_)
  · have h := xif_t hc h
    refine g_aload_n hX dX0_addPhrase_11 rfl 0 rfl ?_
    refine g_getR hX hV (xf0_9 _) dX0_addPhrase_12 ?_
    refine g_aload_n hX dX0_addPhrase_15 rfl 0 rfl ?_
    refine g_getI hX hV xf0_24 dX0_addPhrase_16 ?_
    refine g_iload_n hX dX0_addPhrase_19 rfl 1 rfl ?_
    obtain ⟨hbj1, h⟩ := xat_inv h
    obtain ⟨S2, eS2, h⟩ := xlet_inv h
    refine g_iast (n := 512) hX (xvc_0_0 hX.vc hV) (fun _ => rfl) hbj1 dX0_addPhrase_20 eS2 ?_
    refine g_aload_n hX dX0_addPhrase_21 rfl 0 rfl ?_
    refine g_getR hX hV (xf0_15 _) dX0_addPhrase_22 ?_
    refine g_aload_n hX dX0_addPhrase_25 rfl 0 rfl ?_
    refine g_getI hX hV xf0_24 dX0_addPhrase_26 ?_
    refine g_iload_n hX dX0_addPhrase_29 rfl 2 rfl ?_
    obtain ⟨hbj3, h⟩ := xat_inv h
    obtain ⟨S4, eS4, h⟩ := xlet_inv h
    refine g_iast (n := 512) hX (xvc_0_1 hX.vc hV) (fun _ => rfl) hbj3 dX0_addPhrase_30 eS4 ?_
    refine g_aload_n hX dX0_addPhrase_31 rfl 0 rfl ?_
    refine g_getR hX hV (xf0_18 _) dX0_addPhrase_32 ?_
    refine g_aload_n hX dX0_addPhrase_35 rfl 0 rfl ?_
    refine g_getI hX hV xf0_24 dX0_addPhrase_36 ?_
    refine g_aload_n hX dX0_addPhrase_39 rfl 0 rfl ?_
    refine g_getR hX hV (xf0_18 _) dX0_addPhrase_40 ?_
    refine g_iload_n hX dX0_addPhrase_43 rfl 1 rfl ?_
    obtain ⟨hbj5, h⟩ := xat_inv h
    refine g_iald (n := 512) hX (xvc_0_2 hX.vc hV) rfl hbj5 dX0_addPhrase_44 ?_
    refine g_iconst (v := (1 : Int32)) hX dX0_addPhrase_45 (by decide) ?_
    refine g_iadd hX dX0_addPhrase_46 ?_
    obtain ⟨hbj6, h⟩ := xat_inv h
    obtain ⟨S7, eS7, h⟩ := xlet_inv h
    refine g_iast (n := 512) hX (xvc_0_2 hX.vc hV) (fun _ => rfl) hbj6 dX0_addPhrase_47 eS7 ?_
    refine g_aload_n hX dX0_addPhrase_48 rfl 0 rfl ?_
    refine g_getR hX hV (xf0_21 _) dX0_addPhrase_49 ?_
    refine g_iload_n hX dX0_addPhrase_52 rfl 1 rfl ?_
    refine g_bipush (v := (8 : Int32)) hX dX0_addPhrase_53 (by decide) ?_
    refine g_imul hX dX0_addPhrase_55 ?_
    refine g_iload_n hX dX0_addPhrase_56 rfl 2 rfl ?_
    refine g_iadd hX dX0_addPhrase_57 ?_
    refine g_aload_n hX dX0_addPhrase_58 rfl 0 rfl ?_
    refine g_getI hX hV xf0_24 dX0_addPhrase_59 ?_
    obtain ⟨hbj8, h⟩ := xat_inv h
    obtain ⟨S9, eS9, h⟩ := xlet_inv h
    refine g_iast (n := 4096) hX (xvc_0_3 hX.vc hV) (fun _ => rfl) hbj8 dX0_addPhrase_62 eS9 ?_
    refine g_aload_n hX dX0_addPhrase_63 rfl 0 rfl ?_
    refine g_getR hX hV (xf0_21 _) dX0_addPhrase_64 ?_
    refine g_aload_n hX dX0_addPhrase_67 rfl 0 rfl ?_
    refine g_getI hX hV xf0_24 dX0_addPhrase_68 ?_
    refine g_bipush (v := (8 : Int32)) hX dX0_addPhrase_71 (by decide) ?_
    refine g_imul hX dX0_addPhrase_73 ?_
    refine g_aload_n hX dX0_addPhrase_74 rfl 0 rfl ?_
    refine g_getI hX hV xf0_24 dX0_addPhrase_75 ?_
    refine g_iconst (v := (1 : Int32)) hX dX0_addPhrase_78 (by decide) ?_
    refine g_iadd hX dX0_addPhrase_79 ?_
    refine g_bipush (v := (8 : Int32)) hX dX0_addPhrase_80 (by decide) ?_
    refine g_imul hX dX0_addPhrase_82 ?_
    refine g_iconst (v := (0 : Int32)) hX dX0_addPhrase_83 (by decide) ?_
    obtain ⟨S10, hcS10, h⟩ := xbV_inv h
    refine g_callS hX hR (fun l => cfill4 (l := l) hX.vc (xvc_0_3 hX.vc hV) (fun _ => rfl) hcS10) xc0_28 rfl ⟨by decide, by decide⟩ rfl rfl (Nat.le_of_ble_eq_true rfl) dX0_addPhrase_84 ?_
    refine g_aload_n hX dX0_addPhrase_87 rfl 0 rfl ?_
    refine g_dup hX dX0_addPhrase_88 rfl ?_
    refine g_getI hX hV xf0_24 dX0_addPhrase_89 ?_
    refine g_iconst (v := (1 : Int32)) hX dX0_addPhrase_92 (by decide) ?_
    refine g_iadd hX dX0_addPhrase_93 ?_
    obtain ⟨S11, eS11, h⟩ := xlet_inv h
    refine g_putI hX hV xf0_24 dX0_addPhrase_94 eS11 ?_
    exact g_vret hX hM (Option.some.inj h) dX0_addPhrase_97
  · have h := xif_f hc h
    exact g_vret hX hM (Option.some.inj h) dX0_addPhrase_10
set_option maxRecDepth 100000 in
theorem c5_grow {l : Launch} {K : xK} {o : Nat} (hvc : xVC (xvl K)) (hV : (5, o) ∈ xvl K) {S : xSt} {a1 : Int32} {a2 : Int32} {out : xR} (h : f5_grow S o a1 a2 = some out) : xMet l K yX5_grow cX5_grow 3 none 3 68 S [xr K 5 o, .int a1, .int a2] out := by
  refine xMet_of RX5 (by decide +kernel) rfl hvc (Nat.le_of_ble_eq_true rfl) ?_
  intro X hX hM hR
  show xG K X S 0 [(0, xr K 5 o), (1, .int a1), (2, .int a2)] []
  unfold f5_grow at h
  refine g_aload_n hX dX5_grow_0 rfl 0 rfl ?_
  refine g_getR hX hV (xf5_12 _) dX5_grow_1 ?_
  refine g_getI hX (xvc_5_0 hX.vc hV) xf5_74 dX5_grow_4 ?_
  refine g_aload_n hX dX5_grow_7 rfl 0 rfl ?_
  refine g_getI hX hV xf5_62 dX5_grow_8 ?_
  refine g_icmp_lt hX 15 dX5_grow_11 (by decide) (fun hc => ?_) (fun hc => ?_)
  · have h := xif_t hc h
    refine g_aload_n hX dX5_grow_15 rfl 0 rfl ?_
    refine g_getR hX hV (xf5_12 _) dX5_grow_16 ?_
    refine g_iload_n hX dX5_grow_19 rfl 1 rfl ?_
    refine g_iload_n hX dX5_grow_20 rfl 2 rfl ?_
    obtain ⟨S1, hcS1, h⟩ := xbV_inv h
    refine g_callV hX hR (xvc_5_0 hX.vc hV) (fun l => c0_addPhrase (l := l) hX.vc (xvc_5_0 hX.vc hV) hcS1) xc5_87 rfl ⟨by decide, by decide⟩ rfl rfl (Nat.le_of_ble_eq_true rfl) dX5_grow_21 ?_
    refine g_aload_n hX dX5_grow_24 rfl 0 rfl ?_
    refine g_aload_n hX dX5_grow_25 rfl 0 rfl ?_
    refine g_getI hX hV xf5_71 dX5_grow_26 ?_
    refine g_aload_n hX dX5_grow_29 rfl 0 rfl ?_
    refine g_getR hX hV (xf5_12 _) dX5_grow_30 ?_
    refine g_getR hX (xvc_5_0 hX.vc hV) (xf5_42 _) dX5_grow_33 ?_
    refine g_iload_n hX dX5_grow_36 rfl 1 rfl ?_
    obtain ⟨hbj2, h⟩ := xat_inv h
    refine g_iald (n := 512) hX (xvc_0_2 hX.vc (xvc_5_0 hX.vc hV)) rfl hbj2 dX5_grow_37 ?_
    refine g_iconst (v := (1 : Int32)) hX dX5_grow_38 (by decide) ?_
    refine g_iadd hX dX5_grow_39 ?_
    refine g_max hX hR (by decide) (Nat.le_of_ble_eq_true rfl) xm5_90 xms_max xmi xmc_max dX5_grow_40 ?_
    obtain ⟨S3, eS3, h⟩ := xlet_inv h
    refine g_putI hX hV xf5_71 dX5_grow_43 eS3 ?_
    refine g_aload_n hX dX5_grow_46 rfl 0 rfl ?_
    refine g_aload_n hX dX5_grow_47 rfl 0 rfl ?_
    refine g_getI hX hV xf5_65 dX5_grow_48 ?_
    obtain ⟨S4, eS4, h⟩ := xlet_inv h
    refine g_putI hX hV xf5_96 dX5_grow_51 eS4 ?_
    exact g_vret hX hM (Option.some.inj h) dX5_grow_54
  · have h := xif_f hc h
    exact g_vret hX hM (Option.some.inj h) dX5_grow_14
set_option maxRecDepth 100000 in
theorem sb5_signsOf_L5 {K : xK} {X : xX} {out : xR} {o : Nat} (hX : xOK K X RX5 cX5_signsOf 5) (hM : xM K X out (some .int)) (hR : xRm X 0 0) (hV : (5, o) ∈ xvl K)  {k5 : xSt → Int32 → Int32 → Int32 → Option xR} (hk5 : ∀ (S : xSt) (i2 : Int32) (i3 : Int32) (i4 : Int32), k5 S i2 i3 i4 = some out → xG K X S 5 [(0, xr K 5 o), (2, .int i2), (3, .int i3), (4, .int i4)] []) {S : xSt} {i2 : Int32} {i3 : Int32} {i4 : Int32} (h : b5_signsOf_L5 o  k5 S i2 i3 i4 = some out) : xG K X S 5 [(0, xr K 5 o), (2, .int i2), (3, .int i3), (4, .int i4)] [] := by
  unfold b5_signsOf_L5 at h
  refine g_iload hX dX5_signsOf_5 3 rfl ?_
  refine g_iload_n hX dX5_signsOf_7 rfl 1 rfl ?_
  refine g_icmp_ge hX 27 dX5_signsOf_8 (by decide) (fun hc => ?_) (fun hc => ?_)
  · have h := xif_t hc h
    refine g_iload_n hX dX5_signsOf_27 rfl 2 rfl ?_
    exact g_iret hX hM (Option.some.inj h) dX5_signsOf_28
  · have h := xif_f hc h
    refine g_iload_n hX dX5_signsOf_11 rfl 2 rfl ?_
    refine g_aload_n hX dX5_signsOf_12 rfl 0 rfl ?_
    refine g_getR hX hV (xf5_28 _) dX5_signsOf_13 ?_
    refine g_iload hX dX5_signsOf_16 3 rfl ?_
    obtain ⟨hbj1, h⟩ := xat_inv h
    refine g_iald (n := 281) hX (xvc_5_4 hX.vc hV) rfl hbj1 dX5_signsOf_18 ?_
    refine g_iadd hX dX5_signsOf_19 ?_
    refine g_istore_n (lv2 := [(3, .int (i3 + (S 28 o (i4).toNatClampNeg))), (0, xr K 5 o), (2, .int i2), (4, .int i4)]) hX dX5_signsOf_20 rfl (by decide) rfl ?_
    refine g_iinc (v := (i4 + (1 : Int32))) (lv2 := [(4, .int (i4 + (1 : Int32))), (3, .int (i3 + (S 28 o (i4).toNatClampNeg))), (0, xr K 5 o), (2, .int i2)]) hX dX5_signsOf_21 3 rfl rfl (by decide) rfl ?_
    refine g_goto hX 5 dX5_signsOf_24 (by decide) ?_
    exact g_sub [2, 3, 1, 0] (by rfl) (hk5 _ _ _ _ h)
theorem sf5_signsOf_L5 {K : xK} {X : xX} {out : xR} {o : Nat} (hX : xOK K X RX5 cX5_signsOf 5) (hM : xM K X out (some .int)) (hR : xRm X 0 0) (hV : (5, o) ∈ xvl K)  : ∀ (n : Nat) (S : xSt) (i2 : Int32) (i3 : Int32) (i4 : Int32) (h : f5_signsOf_L5 o  n S i2 i3 i4 = some out), xG K X S 5 [(0, xr K 5 o), (2, .int i2), (3, .int i3), (4, .int i4)] [] := by
  intro n
  induction n with
  | zero => intro S i2 i3 i4 h; cases h
  | succ n ih => intro S i2 i3 i4 h; exact sb5_signsOf_L5 hX hM hR hV  ih h
set_option maxRecDepth 100000 in
theorem c5_signsOf {l : Launch} {K : xK} {o : Nat} (hvc : xVC (xvl K)) (hV : (5, o) ∈ xvl K) {S : xSt} {a1 : Int32} {a2 : Int32} {out : xR} (h : f5_signsOf S o a1 a2 = some out) : xMet l K yX5_signsOf cX5_signsOf 5 (some .int) 0 0 S [xr K 5 o, .int a1, .int a2] out := by
  refine xMet_of RX5 (by decide +kernel) rfl hvc (Nat.le_of_ble_eq_true rfl) ?_
  intro X hX hM hR
  show xG K X S 0 [(0, xr K 5 o), (1, .int a1), (2, .int a2)] []
  unfold f5_signsOf at h
  refine g_iconst (v := (0 : Int32)) hX dX5_signsOf_0 (by decide) ?_
  refine g_istore_n (lv2 := [(3, .int (0 : Int32)), (0, xr K 5 o), (1, .int a1), (2, .int a2)]) hX dX5_signsOf_1 rfl (by decide) rfl ?_
  refine g_iload_n hX dX5_signsOf_2 rfl 2 rfl ?_
  refine g_istore (lv2 := [(4, .int a1), (3, .int (0 : Int32)), (0, xr K 5 o), (1, .int a1), (2, .int a2)]) hX dX5_signsOf_3 (by decide) rfl ?_
  exact g_sub [2, 4, 1, 0] (by rfl) (sf5_signsOf_L5 hX hM hR hV _ _ _ _ _ h)
set_option maxRecDepth 100000 in
theorem c5_losesBy {l : Launch} {K : xK} {o : Nat} (hvc : xVC (xvl K)) (hV : (5, o) ∈ xvl K) {S : xSt} {a1 : Int32} {out : xR} (h : f5_losesBy S o a1 = some out) : xMet l K yX5_losesBy cX5_losesBy 2 (some .boolean) 1 24 S [xr K 5 o, .int a1] out := by
  refine xMet_of RX5 (by decide +kernel) rfl hvc (Nat.le_of_ble_eq_true rfl) ?_
  intro X hX hM hR
  show xG K X S 0 [(0, xr K 5 o), (1, .int a1)] []
  unfold f5_losesBy at h
  refine g_aload_n hX dX5_losesBy_0 rfl 0 rfl ?_
  refine g_getI hX hV xf5_65 dX5_losesBy_1 ?_
  refine g_aload_n hX dX5_losesBy_4 rfl 0 rfl ?_
  refine g_getI hX hV xf5_96 dX5_losesBy_5 ?_
  refine g_isub hX dX5_losesBy_8 ?_
  refine g_iconst (v := (2 : Int32)) hX dX5_losesBy_9 (by decide) ?_
  refine g_iload_n hX dX5_losesBy_10 rfl 1 rfl ?_
  refine g_imul hX dX5_losesBy_11 ?_
  refine g_icmp_ge hX 17 dX5_losesBy_12 (by decide) (fun hc => ?_) (fun hc => ?_)
  · have h := xif_t hc h
    refine g_aload_n hX dX5_losesBy_17 rfl 0 rfl ?_
    refine g_aload_n hX dX5_losesBy_18 rfl 0 rfl ?_
    refine g_getI hX hV xf5_65 dX5_losesBy_19 ?_
    refine g_iload_n hX dX5_losesBy_22 rfl 1 rfl ?_
    refine g_isub hX dX5_losesBy_23 ?_
    refine g_aload_n hX dX5_losesBy_24 rfl 0 rfl ?_
    refine g_getI hX hV xf5_65 dX5_losesBy_25 ?_
    obtain ⟨S1, r2, hcS1, h⟩ := xbI_inv h
    refine g_callV hX hR hV (fun l => c5_signsOf (l := l) hX.vc hV hcS1) xc5_103 rfl ⟨by decide, by decide⟩ rfl rfl (Nat.le_of_ble_eq_true rfl) dX5_losesBy_28 ?_
    refine g_aload_n hX dX5_losesBy_31 rfl 0 rfl ?_
    refine g_aload_n hX dX5_losesBy_32 rfl 0 rfl ?_
    refine g_getI hX hV xf5_65 dX5_losesBy_33 ?_
    refine g_iconst (v := (2 : Int32)) hX dX5_losesBy_36 (by decide) ?_
    refine g_iload_n hX dX5_losesBy_37 rfl 1 rfl ?_
    refine g_imul hX dX5_losesBy_38 ?_
    refine g_isub hX dX5_losesBy_39 ?_
    refine g_aload_n hX dX5_losesBy_40 rfl 0 rfl ?_
    refine g_getI hX hV xf5_65 dX5_losesBy_41 ?_
    refine g_iload_n hX dX5_losesBy_44 rfl 1 rfl ?_
    refine g_isub hX dX5_losesBy_45 ?_
    obtain ⟨S3, r4, hcS3, h⟩ := xbI_inv h
    refine g_callV hX hR hV (fun l => c5_signsOf (l := l) hX.vc hV hcS3) xc5_103 rfl ⟨by decide, by decide⟩ rfl rfl (Nat.le_of_ble_eq_true rfl) dX5_losesBy_46 ?_
    refine g_icmp_ge hX 56 dX5_losesBy_49 (by decide) (fun hc => ?_) (fun hc => ?_)
    · have h := xif_t hc h
      refine g_iconst (v := (0 : Int32)) hX dX5_losesBy_56 (by decide) ?_
      obtain ⟨hz, h⟩ := xne_inv h
      exact g_zret hX hM hz (Option.some.inj h) dX5_losesBy_57
    · have h := xif_f hc h
      refine g_iconst (v := (1 : Int32)) hX dX5_losesBy_52 (by decide) ?_
      refine g_goto hX 57 dX5_losesBy_53 (by decide) ?_
      obtain ⟨hz, h⟩ := xne_inv h
      exact g_zret hX hM hz (Option.some.inj h) dX5_losesBy_57
  · have h := xif_f hc h
    refine g_iconst (v := (0 : Int32)) hX dX5_losesBy_15 (by decide) ?_
    obtain ⟨hz, h⟩ := xne_inv h
    exact g_zret hX hM hz (Option.some.inj h) dX5_losesBy_16
set_option maxRecDepth 100000 in
theorem sf5_mustClear_J33 {K : xK} {X : xX} {out : xR} {o : Nat} (hX : xOK K X RX5 cX5_mustClear 3) (hM : xM K X out (some .boolean)) (hR : xRm X 2 45) (hV : (5, o) ∈ xvl K)  {S : xSt}  (h : f5_mustClear_J33 o  S  = some out) : xG K X S 33 [] [] := by
  unfold f5_mustClear_J33 at h
  refine g_iconst (v := (1 : Int32)) hX dX5_mustClear_33 (by decide) ?_
  refine g_goto hX 38 dX5_mustClear_34 (by decide) ?_
  obtain ⟨hz, h⟩ := xne_inv h
  exact g_zret hX hM hz (Option.some.inj h) dX5_mustClear_38
set_option maxRecDepth 100000 in
theorem c5_mustClear {l : Launch} {K : xK} {o : Nat} (hvc : xVC (xvl K)) (hV : (5, o) ∈ xvl K) {S : xSt} {a1 : Int32} {a2 : Int32} {out : xR} (h : f5_mustClear S o a1 a2 = some out) : xMet l K yX5_mustClear cX5_mustClear 3 (some .boolean) 2 45 S [xr K 5 o, .int a1, .int a2] out := by
  refine xMet_of RX5 (by decide +kernel) rfl hvc (Nat.le_of_ble_eq_true rfl) ?_
  intro X hX hM hR
  show xG K X S 0 [(0, xr K 5 o), (1, .int a1), (2, .int a2)] []
  unfold f5_mustClear at h
  refine g_iload_n hX dX5_mustClear_0 rfl 1 rfl ?_
  refine g_if_eq hX 18 dX5_mustClear_1 (by decide) (fun hc => ?_) (fun hc => ?_)
  · have h := xif_t hc h
    refine g_iconst (v := (0 : Int32)) hX dX5_mustClear_18 (by decide) ?_
    obtain ⟨hz, h⟩ := xne_inv h
    exact g_zret hX hM hz (Option.some.inj h) dX5_mustClear_19
  · have h := xif_f hc h
    refine g_aload_n hX dX5_mustClear_4 rfl 0 rfl ?_
    refine g_getR hX hV (xf5_12 _) dX5_mustClear_5 ?_
    refine g_getI hX (xvc_5_0 hX.vc hV) xf5_74 dX5_mustClear_8 ?_
    refine g_aload_n hX dX5_mustClear_11 rfl 0 rfl ?_
    refine g_getI hX hV xf5_62 dX5_mustClear_12 ?_
    refine g_icmp_ge hX 20 dX5_mustClear_15 (by decide) (fun hc => ?_) (fun hc => ?_)
    · have h := xif_t hc h
      refine g_iload_n hX dX5_mustClear_20 rfl 1 rfl ?_
      refine g_iconst (v := (1 : Int32)) hX dX5_mustClear_21 (by decide) ?_
      refine g_icmp_eq hX 33 dX5_mustClear_22 (by decide) (fun hc => ?_) (fun hc => ?_)
      · have h := xif_t hc h
        exact g_sub [] (by rfl) (sf5_mustClear_J33 hX hM hR hV h)
      · have h := xif_f hc h
        refine g_aload_n hX dX5_mustClear_25 rfl 0 rfl ?_
        refine g_iload_n hX dX5_mustClear_26 rfl 2 rfl ?_
        obtain ⟨S1, r2, hcS1, h⟩ := xbI_inv h
        refine g_callV hX hR hV (fun l => c5_losesBy (l := l) hX.vc hV hcS1) xc5_99 rfl ⟨by decide, by decide⟩ rfl rfl (Nat.le_of_ble_eq_true rfl) dX5_mustClear_27 ?_
        refine g_if_eq hX 37 dX5_mustClear_30 (by decide) (fun hc => ?_) (fun hc => ?_)
        · have h := xif_t hc h
          refine g_iconst (v := (0 : Int32)) hX dX5_mustClear_37 (by decide) ?_
          obtain ⟨hz, h⟩ := xne_inv h
          exact g_zret hX hM hz (Option.some.inj h) dX5_mustClear_38
        · have h := xif_f hc h
          exact g_sub [] (by rfl) (sf5_mustClear_J33 hX hM hR hV h)
    · have h := xif_f hc h
      refine g_iconst (v := (0 : Int32)) hX dX5_mustClear_18 (by decide) ?_
      obtain ⟨hz, h⟩ := xne_inv h
      exact g_zret hX hM hz (Option.some.inj h) dX5_mustClear_19
set_option maxRecDepth 100000 in
theorem sf5_writeOut_J130 {K : xK} {X : xX} {out : xR} {o : Nat} {o1 : Nat} (hX : xOK K X RX5 cX5_writeOut 9) (hM : xM K X out none) (hR : xRm X 4 90) (hV : (5, o) ∈ xvl K) (hV1 : (23, o1) ∈ xvl K)  {S : xSt}  (h : f5_writeOut_J130 o o1  S  = some out) : xG K X S 130 [(0, xr K 5 o)] [] := by
  unfold f5_writeOut_J130 at h
  refine g_aload_n hX dX5_writeOut_130 rfl 0 rfl ?_
  refine g_bipush (v := (9 : Int32)) hX dX5_writeOut_131 (by decide) ?_
  refine g_bipush (v := (-6 : Int32)) hX dX5_writeOut_133 (by decide) ?_
  refine g_iconst (v := (0 : Int32)) hX dX5_writeOut_135 (by decide) ?_
  obtain ⟨S1, hcS1, h⟩ := xbV_inv h
  refine g_callV hX hR hV (fun l => c5_writeCode (l := l) hX.vc hV hcS1) xc5_43 rfl ⟨by decide, by decide⟩ rfl rfl (Nat.le_of_ble_eq_true rfl) dX5_writeOut_136 ?_
  exact g_vret hX hM (Option.some.inj h) dX5_writeOut_139
set_option maxRecDepth 100000 in
theorem sf5_writeOut_J124 {K : xK} {X : xX} {out : xR} {o : Nat} {o1 : Nat} (hX : xOK K X RX5 cX5_writeOut 9) (hM : xM K X out none) (hR : xRm X 4 90) (hV : (5, o) ∈ xvl K) (hV1 : (23, o1) ∈ xvl K) {k11 : xSt → Int32 → Int32 → Int32 → Int32 → Int32 → Option xR} (hk11 : ∀ (S : xSt) (i2 : Int32) (i4 : Int32) (i5 : Int32) (i6 : Int32) (i7 : Int32), k11 S i2 i4 i5 i6 i7 = some out → xG K X S 11 [(0, xr K 5 o), (1, xr K 23 o1), (2, .int i2), (4, .int i4), (5, .int i5), (6, .int i6), (7, .int i7)] []) {S : xSt} {i2 : Int32} {i4 : Int32} {i5 : Int32} {i6 : Int32} {i7 : Int32} (h : f5_writeOut_J124 o o1 k11 S i2 i4 i5 i6 i7 = some out) : xG K X S 124 [(0, xr K 5 o), (1, xr K 23 o1), (2, .int i2), (4, .int i4), (5, .int i5), (6, .int i6), (7, .int i7)] [] := by
  unfold f5_writeOut_J124 at h
  refine g_iinc (v := (i7 + (1 : Int32))) (lv2 := [(7, .int (i7 + (1 : Int32))), (0, xr K 5 o), (1, xr K 23 o1), (2, .int i2), (4, .int i4), (5, .int i5), (6, .int i6)]) hX dX5_writeOut_124 6 rfl rfl (by decide) rfl ?_
  refine g_goto hX 11 dX5_writeOut_127 (by decide) ?_
  exact g_sub [1, 2, 3, 4, 5, 6, 0] (by rfl) (hk11 _ _ _ _ _ _ h)
set_option maxRecDepth 100000 in
theorem sb5_writeOut_L11 {K : xK} {X : xX} {out : xR} {o : Nat} {o1 : Nat} (hX : xOK K X RX5 cX5_writeOut 9) (hM : xM K X out none) (hR : xRm X 4 90) (hV : (5, o) ∈ xvl K) (hV1 : (23, o1) ∈ xvl K)  {k11 : xSt → Int32 → Int32 → Int32 → Int32 → Int32 → Option xR} (hk11 : ∀ (S : xSt) (i2 : Int32) (i4 : Int32) (i5 : Int32) (i6 : Int32) (i7 : Int32), k11 S i2 i4 i5 i6 i7 = some out → xG K X S 11 [(0, xr K 5 o), (1, xr K 23 o1), (2, .int i2), (4, .int i4), (5, .int i5), (6, .int i6), (7, .int i7)] []) {S : xSt} {i2 : Int32} {i4 : Int32} {i5 : Int32} {i6 : Int32} {i7 : Int32} (h : b5_writeOut_L11 o o1  k11 S i2 i4 i5 i6 i7 = some out) : xG K X S 11 [(0, xr K 5 o), (1, xr K 23 o1), (2, .int i2), (4, .int i4), (5, .int i5), (6, .int i6), (7, .int i7)] [] := by
  unfold b5_writeOut_L11 at h
  refine g_iload hX dX5_writeOut_11 6 rfl ?_
  refine g_sipush (v := (240 : Int32)) hX dX5_writeOut_13 (by decide) ?_
  refine g_icmp_ge hX 130 dX5_writeOut_16 (by decide) (fun hc => ?_) (fun hc => ?_)
  · have h := xif_t hc h
    exact g_sub [0] (by rfl) (sf5_writeOut_J130 hX hM hR hV hV1 h)
  · have h := xif_f hc h
    refine g_iload hX dX5_writeOut_19 5 rfl ?_
    refine g_iload_n hX dX5_writeOut_21 rfl 2 rfl ?_
    refine g_icmp_ge hX 130 dX5_writeOut_22 (by decide) (fun hc => ?_) (fun hc => ?_)
    · have h := xif_t hc h
      exact g_sub [0] (by rfl) (sf5_writeOut_J130 hX hM hR hV hV1 h)
    · have h := xif_f hc h
      refine g_aload_n hX dX5_writeOut_25 rfl 0 rfl ?_
      refine g_getR hX hV (xf5_12 _) dX5_writeOut_26 ?_
      refine g_aload_n hX dX5_writeOut_29 rfl 1 rfl ?_
      refine g_iload hX dX5_writeOut_30 5 rfl ?_
      refine g_iload_n hX dX5_writeOut_32 rfl 2 rfl ?_
      obtain ⟨S1, r2, hcS1, h⟩ := xbI_inv h
      refine g_callV hX hR (xvc_5_0 hX.vc hV) (fun l => c0_longestAt (l := l) hX.vc (xvc_5_0 hX.vc hV) hV1 hcS1) xc5_38 rfl ⟨by decide, by decide⟩ rfl rfl (Nat.le_of_ble_eq_true rfl) dX5_writeOut_33 ?_
      refine g_istore (lv2 := [(8, .int r2), (0, xr K 5 o), (1, xr K 23 o1), (2, .int i2), (4, .int i4), (5, .int i5), (6, .int i6), (7, .int i7)]) hX dX5_writeOut_36 (by decide) rfl ?_
      refine g_aload_n hX dX5_writeOut_38 rfl 1 rfl ?_
      refine g_iload hX dX5_writeOut_39 0 rfl ?_
      refine g_iload hX dX5_writeOut_41 6 rfl ?_
      refine g_aload_n hX dX5_writeOut_43 rfl 1 rfl ?_
      refine g_getR hX hV (xf5_12 _) dX5_writeOut_44 ?_
      refine g_getR hX (xvc_5_0 hX.vc hV) (xf5_42 _) dX5_writeOut_47 ?_
      refine g_iload hX dX5_writeOut_50 0 rfl ?_
      obtain ⟨hbj3, h⟩ := xat_inv h
      refine g_iald (n := 512) hX (xvc_0_2 hX.vc (xvc_5_0 hX.vc hV)) rfl hbj3 dX5_writeOut_52 ?_
      obtain ⟨S4, hcS4, h⟩ := xbV_inv h
      refine g_callV hX hR hV (fun l => c5_writeCode (l := l) hX.vc hV hcS4) xc5_43 rfl ⟨by decide, by decide⟩ rfl rfl (Nat.le_of_ble_eq_true rfl) dX5_writeOut_53 ?_
      refine g_iload hX dX5_writeOut_56 6 rfl ?_
      refine g_aload_n hX dX5_writeOut_58 rfl 1 rfl ?_
      refine g_getR hX hV (xf5_12 _) dX5_writeOut_59 ?_
      refine g_getR hX (xvc_5_0 hX.vc hV) (xf5_42 _) dX5_writeOut_62 ?_
      refine g_iload hX dX5_writeOut_65 0 rfl ?_
      obtain ⟨hbj5, h⟩ := xat_inv h
      refine g_iald (n := 512) hX (xvc_0_2 hX.vc (xvc_5_0 hX.vc hV)) rfl hbj5 dX5_writeOut_67 ?_
      refine g_iadd hX dX5_writeOut_68 ?_
      refine g_istore (lv2 := [(6, .int (i6 + (S4 12 o (r2).toNatClampNeg))), (8, .int r2), (0, xr K 5 o), (1, xr K 23 o1), (2, .int i2), (4, .int i4), (5, .int i5), (7, .int i7)]) hX dX5_writeOut_69 (by decide) rfl ?_
      refine g_iload hX dX5_writeOut_71 0 rfl ?_
      refine g_iload_n hX dX5_writeOut_73 rfl 4 rfl ?_
      refine g_icmp_ge hX 124 dX5_writeOut_74 (by decide) (fun hc => ?_) (fun hc => ?_)
      · have h := xif_t hc h
        exact g_sub [2, 3, 4, 5, 6, 0, 7] (by rfl) (sf5_writeOut_J124 hX hM hR hV hV1 hk11 h)
      · have h := xif_f hc h
        refine g_aload_n hX dX5_writeOut_77 rfl 2 rfl ?_
        refine g_iload hX dX5_writeOut_78 1 rfl ?_
        refine g_aload_n hX dX5_writeOut_80 rfl 3 rfl ?_
        refine g_iload hX dX5_writeOut_81 0 rfl ?_
        obtain ⟨hbj6, h⟩ := xat_inv h
        refine g_iald (n := 240) hX hV1 rfl hbj6 dX5_writeOut_83 ?_
        obtain ⟨S7, hcS7, h⟩ := xbV_inv h
        refine g_callV hX hR hV (fun l => c5_grow (l := l) hX.vc hV hcS7) xc5_47 rfl ⟨by decide, by decide⟩ rfl rfl (Nat.le_of_ble_eq_true rfl) dX5_writeOut_84 ?_
        refine g_aload_n hX dX5_writeOut_87 rfl 2 rfl ?_
        refine g_iload hX dX5_writeOut_88 5 rfl ?_
        refine g_iload hX dX5_writeOut_90 6 rfl ?_
        obtain ⟨S8, r9, hcS8, h⟩ := xbI_inv h
        refine g_callV hX hR hV (fun l => c5_mustClear (l := l) hX.vc hV hcS8) xc5_51 rfl ⟨by decide, by decide⟩ rfl rfl (Nat.le_of_ble_eq_true rfl) dX5_writeOut_92 ?_
        refine g_if_eq hX 124 dX5_writeOut_95 (by decide) (fun hc => ?_) (fun hc => ?_)
        · have h := xif_t hc h
          exact g_sub [2, 3, 4, 5, 6, 0, 7] (by rfl) (sf5_writeOut_J124 hX hM hR hV hV1 hk11 h)
        · have h := xif_f hc h
          refine g_aload_n hX dX5_writeOut_98 rfl 2 rfl ?_
          refine g_bipush (v := (8 : Int32)) hX dX5_writeOut_99 (by decide) ?_
          refine g_bipush (v := (-6 : Int32)) hX dX5_writeOut_101 (by decide) ?_
          refine g_iconst (v := (0 : Int32)) hX dX5_writeOut_103 (by decide) ?_
          obtain ⟨S10, hcS10, h⟩ := xbV_inv h
          refine g_callV hX hR hV (fun l => c5_writeCode (l := l) hX.vc hV hcS10) xc5_43 rfl ⟨by decide, by decide⟩ rfl rfl (Nat.le_of_ble_eq_true rfl) dX5_writeOut_104 ?_
          refine g_aload_n hX dX5_writeOut_107 rfl 2 rfl ?_
          refine g_dup hX dX5_writeOut_108 rfl ?_
          refine g_getI hX hV xf5_55 dX5_writeOut_109 ?_
          refine g_iconst (v := (1 : Int32)) hX dX5_writeOut_112 (by decide) ?_
          refine g_iadd hX dX5_writeOut_113 ?_
          obtain ⟨S11, eS11, h⟩ := xlet_inv h
          refine g_putI hX hV xf5_55 dX5_writeOut_114 eS11 ?_
          refine g_aload_n hX dX5_writeOut_117 rfl 2 rfl ?_
          refine g_getR hX hV (xf5_12 _) dX5_writeOut_118 ?_
          obtain ⟨S12, hcS12, h⟩ := xbV_inv h
          refine g_callV hX hR (xvc_5_0 hX.vc hV) (fun l => c0_dropPhrases (l := l) hX.vc (xvc_5_0 hX.vc hV) hcS12) xc5_59 rfl ⟨by decide, by decide⟩ rfl rfl (Nat.le_of_ble_eq_true rfl) dX5_writeOut_121 ?_
          exact g_sub [2, 3, 4, 5, 6, 0, 7] (by rfl) (sf5_writeOut_J124 hX hM hR hV hV1 hk11 h)
theorem sf5_writeOut_L11 {K : xK} {X : xX} {out : xR} {o : Nat} {o1 : Nat} (hX : xOK K X RX5 cX5_writeOut 9) (hM : xM K X out none) (hR : xRm X 4 90) (hV : (5, o) ∈ xvl K) (hV1 : (23, o1) ∈ xvl K)  : ∀ (n : Nat) (S : xSt) (i2 : Int32) (i4 : Int32) (i5 : Int32) (i6 : Int32) (i7 : Int32) (h : f5_writeOut_L11 o o1  n S i2 i4 i5 i6 i7 = some out), xG K X S 11 [(0, xr K 5 o), (1, xr K 23 o1), (2, .int i2), (4, .int i4), (5, .int i5), (6, .int i6), (7, .int i7)] [] := by
  intro n
  induction n with
  | zero => intro S i2 i4 i5 i6 i7 h; cases h
  | succ n ih => intro S i2 i4 i5 i6 i7 h; exact sb5_writeOut_L11 hX hM hR hV hV1  ih h
set_option maxRecDepth 100000 in
theorem c5_writeOut {l : Launch} {K : xK} {o : Nat} {o1 : Nat} (hvc : xVC (xvl K)) (hV : (5, o) ∈ xvl K) (hV1 : (23, o1) ∈ xvl K) {S : xSt} {a2 : Int32} {a3 : Int32} {a4 : Int32} {a5 : Int32} {out : xR} (h : f5_writeOut S o o1 a2 a3 a4 a5 = some out) : xMet l K yX5_writeOut cX5_writeOut 9 none 4 90 S [xr K 5 o, xr K 23 o1, .int a2, .int a3, .int a4, .int a5] out := by
  refine xMet_of RX5 (by decide +kernel) rfl hvc (Nat.le_of_ble_eq_true rfl) ?_
  intro X hX hM hR
  show xG K X S 0 [(0, xr K 5 o), (1, xr K 23 o1), (2, .int a2), (3, .int a3), (4, .int a4), (5, .int a5)] []
  unfold f5_writeOut at h
  refine g_aload_n hX dX5_writeOut_0 rfl 0 rfl ?_
  refine g_iload_n hX dX5_writeOut_1 rfl 3 rfl ?_
  obtain ⟨S1, hcS1, h⟩ := xbV_inv h
  refine g_callV hX hR hV (fun l => c5_begin (l := l) hX.vc hV hcS1) xc5_34 rfl ⟨by decide, by decide⟩ rfl rfl (Nat.le_of_ble_eq_true rfl) dX5_writeOut_2 ?_
  refine g_iconst (v := (0 : Int32)) hX dX5_writeOut_5 (by decide) ?_
  refine g_istore (lv2 := [(6, .int (0 : Int32)), (0, xr K 5 o), (1, xr K 23 o1), (2, .int a2), (3, .int a3), (4, .int a4), (5, .int a5)]) hX dX5_writeOut_6 (by decide) rfl ?_
  refine g_iconst (v := (0 : Int32)) hX dX5_writeOut_8 (by decide) ?_
  refine g_istore (lv2 := [(7, .int (0 : Int32)), (6, .int (0 : Int32)), (0, xr K 5 o), (1, xr K 23 o1), (2, .int a2), (3, .int a3), (4, .int a4), (5, .int a5)]) hX dX5_writeOut_9 (by decide) rfl ?_
  exact g_sub [2, 3, 4, 6, 7, 1, 0] (by rfl) (sf5_writeOut_L11 hX hM hR hV hV1 _ _ _ _ _ _ _ h)
set_option maxRecDepth 100000 in
theorem sf4_countSpoiled_J26 {K : xK} {X : xX} {out : xR} {o : Nat} (hX : xOK K X RX4 cX4_countSpoiled 3) (hM : xM K X out (some .int)) (hR : xRm X 0 0) (hV : (4, o) ∈ xvl K) {k4 : xSt → Int32 → Int32 → Option xR} (hk4 : ∀ (S : xSt) (i1 : Int32) (i2 : Int32), k4 S i1 i2 = some out → xG K X S 4 [(0, xr K 4 o), (1, .int i1), (2, .int i2)] []) {S : xSt} {i2 : Int32} {k0 : Int32} {k1 : Int32} (h : f4_countSpoiled_J26 o k4 S i2 k0 k1 = some out) : xG K X S 26 [(0, xr K 4 o), (2, .int i2)] [.int k0, .int k1] := by
  unfold f4_countSpoiled_J26 at h
  refine g_iadd hX dX4_countSpoiled_26 ?_
  refine g_istore_n (lv2 := [(1, .int (k1 + k0)), (0, xr K 4 o), (2, .int i2)]) hX dX4_countSpoiled_27 rfl (by decide) rfl ?_
  refine g_iinc (v := (i2 + (1 : Int32))) (lv2 := [(2, .int (i2 + (1 : Int32))), (1, .int (k1 + k0)), (0, xr K 4 o)]) hX dX4_countSpoiled_28 2 rfl rfl (by decide) rfl ?_
  refine g_goto hX 4 dX4_countSpoiled_31 (by decide) ?_
  exact g_sub [2, 1, 0] (by rfl) (hk4 _ _ _ h)
set_option maxRecDepth 100000 in
theorem sb4_countSpoiled_L4 {K : xK} {X : xX} {out : xR} {o : Nat} (hX : xOK K X RX4 cX4_countSpoiled 3) (hM : xM K X out (some .int)) (hR : xRm X 0 0) (hV : (4, o) ∈ xvl K)  {k4 : xSt → Int32 → Int32 → Option xR} (hk4 : ∀ (S : xSt) (i1 : Int32) (i2 : Int32), k4 S i1 i2 = some out → xG K X S 4 [(0, xr K 4 o), (1, .int i1), (2, .int i2)] []) {S : xSt} {i1 : Int32} {i2 : Int32} (h : b4_countSpoiled_L4 o  k4 S i1 i2 = some out) : xG K X S 4 [(0, xr K 4 o), (1, .int i1), (2, .int i2)] [] := by
  unfold b4_countSpoiled_L4 at h
  refine g_iload_n hX dX4_countSpoiled_4 rfl 2 rfl ?_
  refine g_sipush (v := (281 : Int32)) hX dX4_countSpoiled_5 (by decide) ?_
  refine g_icmp_ge hX 34 dX4_countSpoiled_8 (by decide) (fun hc => ?_) (fun hc => ?_)
  · have h := xif_t hc h
    refine g_iload_n hX dX4_countSpoiled_34 rfl 1 rfl ?_
    exact g_iret hX hM (Option.some.inj h) dX4_countSpoiled_35
  · have h := xif_f hc h
    refine g_iload_n hX dX4_countSpoiled_11 rfl 1 rfl ?_
    refine g_aload_n hX dX4_countSpoiled_12 rfl 0 rfl ?_
    refine g_getR hX hV (xf4_26 _) dX4_countSpoiled_13 ?_
    refine g_iload_n hX dX4_countSpoiled_16 rfl 2 rfl ?_
    obtain ⟨hbj1, h⟩ := xat_inv h
    refine g_iald (n := 281) hX (xvc_4_2 hX.vc hV) rfl hbj1 dX4_countSpoiled_17 ?_
    refine g_if_eq hX 25 dX4_countSpoiled_18 (by decide) (fun hc => ?_) (fun hc => ?_)
    · have h := xif_t hc h
      refine g_iconst (v := (0 : Int32)) hX dX4_countSpoiled_25 (by decide) ?_
      exact g_sub [0, 2] (by rfl) (sf4_countSpoiled_J26 hX hM hR hV hk4 h)
    · have h := xif_f hc h
      refine g_iconst (v := (1 : Int32)) hX dX4_countSpoiled_21 (by decide) ?_
      refine g_goto hX 26 dX4_countSpoiled_22 (by decide) ?_
      exact g_sub [0, 2] (by rfl) (sf4_countSpoiled_J26 hX hM hR hV hk4 h)
theorem sf4_countSpoiled_L4 {K : xK} {X : xX} {out : xR} {o : Nat} (hX : xOK K X RX4 cX4_countSpoiled 3) (hM : xM K X out (some .int)) (hR : xRm X 0 0) (hV : (4, o) ∈ xvl K)  : ∀ (n : Nat) (S : xSt) (i1 : Int32) (i2 : Int32) (h : f4_countSpoiled_L4 o  n S i1 i2 = some out), xG K X S 4 [(0, xr K 4 o), (1, .int i1), (2, .int i2)] [] := by
  intro n
  induction n with
  | zero => intro S i1 i2 h; cases h
  | succ n ih => intro S i1 i2 h; exact sb4_countSpoiled_L4 hX hM hR hV  ih h
set_option maxRecDepth 100000 in
theorem c4_countSpoiled {l : Launch} {K : xK} {o : Nat} (hvc : xVC (xvl K)) (hV : (4, o) ∈ xvl K) {S : xSt}  {out : xR} (h : f4_countSpoiled S o  = some out) : xMet l K yX4_countSpoiled cX4_countSpoiled 3 (some .int) 0 0 S [xr K 4 o] out := by
  refine xMet_of RX4 (by decide +kernel) rfl hvc (Nat.le_of_ble_eq_true rfl) ?_
  intro X hX hM hR
  show xG K X S 0 [(0, xr K 4 o)] []
  unfold f4_countSpoiled at h
  refine g_iconst (v := (0 : Int32)) hX dX4_countSpoiled_0 (by decide) ?_
  refine g_istore_n (lv2 := [(1, .int (0 : Int32)), (0, xr K 4 o)]) hX dX4_countSpoiled_1 rfl (by decide) rfl ?_
  refine g_iconst (v := (0 : Int32)) hX dX4_countSpoiled_2 (by decide) ?_
  refine g_istore_n (lv2 := [(2, .int (0 : Int32)), (1, .int (0 : Int32)), (0, xr K 4 o)]) hX dX4_countSpoiled_3 rfl (by decide) rfl ?_
  exact g_sub [2, 1, 0] (by rfl) (sf4_countSpoiled_L4 hX hM hR hV _ _ _ _ h)
