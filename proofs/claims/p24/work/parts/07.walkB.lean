set_option maxRecDepth 100000 in
theorem sf1_record_J19 {K : xK} {X : xX} {out : xR} {o1 : Nat} (hX : xOK K X RX1 cX1_record 2) (hM : xM K X out none) (hR : xRm X 2 39) (hV : (1, 0) ∈ xvl K) (hV1 : (4, o1) ∈ xvl K)  {S : xSt} {k0 : Int32} (h : f1_record_J19 o1  S k0 = some out) : xG K X S 19 [(0, xr K 1 0), (1, xr K 4 o1)] [.int k0, xr K 1 0] := by
  unfold f1_record_J19 at h
  obtain ⟨S1, eS1, h⟩ := xlet_inv h
  refine g_putI hX hV xf1_18 dX1_record_19 eS1 ?_
  refine g_aload_n hX dX1_record_22 rfl 0 rfl ?_
  refine g_aload_n hX dX1_record_23 rfl 0 rfl ?_
  refine g_getI hX hV xf1_22 dX1_record_24 ?_
  refine g_iconst (v := (1 : Int32)) hX dX1_record_27 (by decide) ?_
  refine g_iadd hX dX1_record_28 ?_
  refine g_bipush (v := (6 : Int32)) hX dX1_record_29 (by decide) ?_
  refine g_min hX hR (by decide) (Nat.le_of_ble_eq_true rfl) xm1_25 xms_min xmi xmc_min dX1_record_31 ?_
  obtain ⟨S2, eS2, h⟩ := xlet_inv h
  refine g_putI hX hV xf1_22 dX1_record_34 eS2 ?_
  refine g_aload_n hX dX1_record_37 rfl 1 rfl ?_
  refine g_aload_n hX dX1_record_38 rfl 0 rfl ?_
  refine g_getR hX hV (xf1_11 _) dX1_record_39 ?_
  refine g_aload_n hX dX1_record_42 rfl 0 rfl ?_
  refine g_getI hX hV xf1_18 dX1_record_43 ?_
  obtain ⟨hbj3, h⟩ := xat_inv h
  refine g_aald (b := 1) hX (xvc_1_0 hX.vc hV) rfl hbj3 dX1_record_46 ?_
  obtain ⟨S4, hcS4, h⟩ := xbV_inv h
  refine g_callS hX hR (fun l => c6_copyState (l := l) hX.vc hV1 (xvc_s14 hX.vc (xvc_1_0 hX.vc hV) (xin_lt hbj3)) hcS4) xc1_31 rfl ⟨by decide, by decide⟩ rfl rfl (Nat.le_of_ble_eq_true rfl) dX1_record_47 ?_
  exact g_vret hX hM (Option.some.inj h) dX1_record_50
set_option maxRecDepth 100000 in
theorem c1_record {l : Launch} {K : xK} {o1 : Nat} (hvc : xVC (xvl K)) (hV : (1, 0) ∈ xvl K) (hV1 : (4, o1) ∈ xvl K) {S : xSt}  {out : xR} (h : f1_record S o1  = some out) : xMet l K yX1_record cX1_record 2 none 2 39 S [xr K 1 0, xr K 4 o1] out := by
  refine xMet_of RX1 (by decide +kernel) rfl hvc (Nat.le_of_ble_eq_true rfl) ?_
  intro X hX hM hR
  show xG K X S 0 [(0, xr K 1 0), (1, xr K 4 o1)] []
  unfold f1_record at h
  refine g_aload_n hX dX1_record_0 rfl 0 rfl ?_
  refine g_aload_n hX dX1_record_1 rfl 0 rfl ?_
  refine g_getI hX hV xf1_18 dX1_record_2 ?_
  refine g_iconst (v := (5 : Int32)) hX dX1_record_5 (by decide) ?_
  refine g_icmp_lt hX 13 dX1_record_6 (by decide) (fun hc => ?_) (fun hc => ?_)
  · have h := xif_t hc h
    refine g_aload_n hX dX1_record_13 rfl 0 rfl ?_
    refine g_getI hX hV xf1_18 dX1_record_14 ?_
    refine g_iconst (v := (1 : Int32)) hX dX1_record_17 (by decide) ?_
    refine g_iadd hX dX1_record_18 ?_
    exact sf1_record_J19 hX hM hR hV hV1 h
  · have h := xif_f hc h
    refine g_iconst (v := (0 : Int32)) hX dX1_record_9 (by decide) ?_
    refine g_goto hX 19 dX1_record_10 (by decide) ?_
    exact sf1_record_J19 hX hM hR hV hV1 h
set_option maxRecDepth 100000 in
theorem c3_dropPhrases {l : Launch} {K : xK} {o : Nat} (hvc : xVC (xvl K)) (hV : (3, o) ∈ xvl K) {S : xSt}  {out : xR} (h : f3_dropPhrases S o  = some out) : xMet l K yX3_dropPhrases cX3_dropPhrases 1 none 0 0 S [xr K 3 o] out := by
  refine xMet_of RX3 (by decide +kernel) rfl hvc (Nat.le_of_ble_eq_true rfl) ?_
  intro X hX hM hR
  show xG K X S 0 [(0, xr K 3 o)] []
  unfold f3_dropPhrases at h
  refine g_aload_n hX dX3_dropPhrases_0 rfl 0 rfl ?_
  refine g_bipush (v := (10 : Int32)) hX dX3_dropPhrases_1 (by decide) ?_
  obtain ⟨S1, eS1, h⟩ := xlet_inv h
  refine g_putI hX hV xf3_56 dX3_dropPhrases_3 eS1 ?_
  refine g_aload_n hX dX3_dropPhrases_6 rfl 0 rfl ?_
  refine g_iconst (v := (0 : Int32)) hX dX3_dropPhrases_7 (by decide) ?_
  obtain ⟨S2, eS2, h⟩ := xlet_inv h
  refine g_putI hX hV xf3_59 dX3_dropPhrases_8 eS2 ?_
  exact g_vret hX hM (Option.some.inj h) dX3_dropPhrases_11
set_option maxRecDepth 100000 in
theorem c3_begin {l : Launch} {K : xK} {o : Nat} (hvc : xVC (xvl K)) (hV : (3, o) ∈ xvl K) {S : xSt} {a1 : Int32} {out : xR} (h : f3_begin S o a1 = some out) : xMet l K yX3_begin cX3_begin 2 none 1 20 S [xr K 3 o, .int a1] out := by
  refine xMet_of RX3 (by decide +kernel) rfl hvc (Nat.le_of_ble_eq_true rfl) ?_
  intro X hX hM hR
  show xG K X S 0 [(0, xr K 3 o), (1, .int a1)] []
  unfold f3_begin at h
  refine g_aload_n hX dX3_begin_0 rfl 0 rfl ?_
  refine g_iconst (v := (1 : Int32)) hX dX3_begin_1 (by decide) ?_
  refine g_iload_n hX dX3_begin_2 rfl 1 rfl ?_
  refine g_ishl hX dX3_begin_3 ?_
  obtain ⟨S1, eS1, h⟩ := xlet_inv h
  refine g_putI hX hV xf3_40 dX3_begin_4 eS1 ?_
  refine g_aload_n hX dX3_begin_7 rfl 0 rfl ?_
  refine g_iconst (v := (0 : Int32)) hX dX3_begin_8 (by decide) ?_
  obtain ⟨S2, eS2, h⟩ := xlet_inv h
  refine g_putI hX hV xf3_44 dX3_begin_9 eS2 ?_
  refine g_aload_n hX dX3_begin_12 rfl 0 rfl ?_
  refine g_iconst (v := (0 : Int32)) hX dX3_begin_13 (by decide) ?_
  obtain ⟨S3, eS3, h⟩ := xlet_inv h
  refine g_putI hX hV xf3_47 dX3_begin_14 eS3 ?_
  refine g_aload_n hX dX3_begin_17 rfl 0 rfl ?_
  refine g_bipush (v := (-6 : Int32)) hX dX3_begin_18 (by decide) ?_
  obtain ⟨S4, eS4, h⟩ := xlet_inv h
  refine g_putI hX hV xf3_50 dX3_begin_20 eS4 ?_
  refine g_aload_n hX dX3_begin_23 rfl 0 rfl ?_
  refine g_iconst (v := (0 : Int32)) hX dX3_begin_24 (by decide) ?_
  obtain ⟨S5, eS5, h⟩ := xlet_inv h
  refine g_putI hX hV xf3_53 dX3_begin_25 eS5 ?_
  refine g_aload_n hX dX3_begin_28 rfl 0 rfl ?_
  obtain ⟨S6, hcS6, h⟩ := xbV_inv h
  refine g_callV hX hR hV (fun l => c3_dropPhrases (l := l) hX.vc hV hcS6) xc3_30 rfl ⟨by decide, by decide⟩ rfl rfl (Nat.le_of_ble_eq_true rfl) dX3_begin_29 ?_
  exact g_vret hX hM (Option.some.inj h) dX3_begin_32
set_option maxRecDepth 100000 in
theorem c3_noteFault {l : Launch} {K : xK} {o : Nat} (hvc : xVC (xvl K)) (hV : (3, o) ∈ xvl K) {S : xSt} {a1 : Int32} {a2 : Int32} {out : xR} (h : f3_noteFault S o a1 a2 = some out) : xMet l K yX3_noteFault cX3_noteFault 3 none 0 0 S [xr K 3 o, .int a1, .int a2] out := by
  refine xMet_of RX3 (by decide +kernel) rfl hvc (Nat.le_of_ble_eq_true rfl) ?_
  intro X hX hM hR
  show xG K X S 0 [(0, xr K 3 o), (1, .int a1), (2, .int a2)] []
  unfold f3_noteFault at h
  refine g_aload_n hX dX3_noteFault_0 rfl 0 rfl ?_
  refine g_iload_n hX dX3_noteFault_1 rfl 1 rfl ?_
  obtain ⟨S1, eS1, h⟩ := xlet_inv h
  refine g_putI hX hV xf3_50 dX3_noteFault_2 eS1 ?_
  refine g_aload_n hX dX3_noteFault_5 rfl 0 rfl ?_
  refine g_iload_n hX dX3_noteFault_6 rfl 2 rfl ?_
  obtain ⟨S2, eS2, h⟩ := xlet_inv h
  refine g_putI hX hV xf3_53 dX3_noteFault_7 eS2 ?_
  exact g_vret hX hM (Option.some.inj h) dX3_noteFault_10
set_option maxRecDepth 100000 in
theorem c3_canGrow {l : Launch} {K : xK} {o : Nat} (hvc : xVC (xvl K)) (hV : (3, o) ∈ xvl K) {S : xSt}  {out : xR} (h : f3_canGrow S o  = some out) : xMet l K yX3_canGrow cX3_canGrow 1 (some .boolean) 0 0 S [xr K 3 o] out := by
  refine xMet_of RX3 (by decide +kernel) rfl hvc (Nat.le_of_ble_eq_true rfl) ?_
  intro X hX hM hR
  show xG K X S 0 [(0, xr K 3 o)] []
  unfold f3_canGrow at h
  refine g_aload_n hX dX3_canGrow_0 rfl 0 rfl ?_
  refine g_getI hX hV xf3_59 dX3_canGrow_1 ?_
  refine g_if_le hX 32 dX3_canGrow_4 (by decide) (fun hc => ?_) (fun hc => ?_)
  · have h := xif_t hc h
    refine g_iconst (v := (0 : Int32)) hX dX3_canGrow_32 (by decide) ?_
    obtain ⟨hz, h⟩ := xne_inv h
    exact g_zret hX hM hz (Option.some.inj h) dX3_canGrow_33
  · have h := xif_f hc h
    refine g_aload_n hX dX3_canGrow_7 rfl 0 rfl ?_
    refine g_getI hX hV xf3_56 dX3_canGrow_8 ?_
    refine g_aload_n hX dX3_canGrow_11 rfl 0 rfl ?_
    refine g_getI hX hV xf3_40 dX3_canGrow_12 ?_
    refine g_icmp_ge hX 32 dX3_canGrow_15 (by decide) (fun hc => ?_) (fun hc => ?_)
    · have h := xif_t hc h
      refine g_iconst (v := (0 : Int32)) hX dX3_canGrow_32 (by decide) ?_
      obtain ⟨hz, h⟩ := xne_inv h
      exact g_zret hX hM hz (Option.some.inj h) dX3_canGrow_33
    · have h := xif_f hc h
      refine g_aload_n hX dX3_canGrow_18 rfl 0 rfl ?_
      refine g_getI hX hV xf3_56 dX3_canGrow_19 ?_
      refine g_sipush (v := (512 : Int32)) hX dX3_canGrow_22 (by decide) ?_
      refine g_icmp_ge hX 32 dX3_canGrow_25 (by decide) (fun hc => ?_) (fun hc => ?_)
      · have h := xif_t hc h
        refine g_iconst (v := (0 : Int32)) hX dX3_canGrow_32 (by decide) ?_
        obtain ⟨hz, h⟩ := xne_inv h
        exact g_zret hX hM hz (Option.some.inj h) dX3_canGrow_33
      · have h := xif_f hc h
        refine g_iconst (v := (1 : Int32)) hX dX3_canGrow_28 (by decide) ?_
        refine g_goto hX 33 dX3_canGrow_29 (by decide) ?_
        obtain ⟨hz, h⟩ := xne_inv h
        exact g_zret hX hM hz (Option.some.inj h) dX3_canGrow_33
set_option maxRecDepth 100000 in
theorem sf3_canStand_J27 {K : xK} {X : xX} {out : xR} {o : Nat} (hX : xOK K X RX3 cX3_canStand 2) (hM : xM K X out (some .boolean)) (hR : xRm X 1 20) (hV : (3, o) ∈ xvl K)  {S : xSt}  (h : f3_canStand_J27 o  S  = some out) : xG K X S 27 [] [] := by
  unfold f3_canStand_J27 at h
  refine g_iconst (v := (1 : Int32)) hX dX3_canStand_27 (by decide) ?_
  refine g_goto hX 32 dX3_canStand_28 (by decide) ?_
  obtain ⟨hz, h⟩ := xne_inv h
  exact g_zret hX hM hz (Option.some.inj h) dX3_canStand_32
set_option maxRecDepth 100000 in
theorem c3_canStand {l : Launch} {K : xK} {o : Nat} (hvc : xVC (xvl K)) (hV : (3, o) ∈ xvl K) {S : xSt} {a1 : Int32} {out : xR} (h : f3_canStand S o a1 = some out) : xMet l K yX3_canStand cX3_canStand 2 (some .boolean) 1 20 S [xr K 3 o, .int a1] out := by
  refine xMet_of RX3 (by decide +kernel) rfl hvc (Nat.le_of_ble_eq_true rfl) ?_
  intro X hX hM hR
  show xG K X S 0 [(0, xr K 3 o), (1, .int a1)] []
  unfold f3_canStand at h
  refine g_iload_n hX dX3_canStand_0 rfl 1 rfl ?_
  refine g_if_lt hX 31 dX3_canStand_1 (by decide) (fun hc => ?_) (fun hc => ?_)
  · have h := xif_t hc h
    refine g_iconst (v := (0 : Int32)) hX dX3_canStand_31 (by decide) ?_
    obtain ⟨hz, h⟩ := xne_inv h
    exact g_zret hX hM hz (Option.some.inj h) dX3_canStand_32
  · have h := xif_f hc h
    refine g_iload_n hX dX3_canStand_4 rfl 1 rfl ?_
    refine g_aload_n hX dX3_canStand_5 rfl 0 rfl ?_
    refine g_getI hX hV xf3_56 dX3_canStand_6 ?_
    refine g_icmp_lt hX 27 dX3_canStand_9 (by decide) (fun hc => ?_) (fun hc => ?_)
    · have h := xif_t hc h
      exact g_sub [] (by rfl) (sf3_canStand_J27 hX hM hR hV h)
    · have h := xif_f hc h
      refine g_iload_n hX dX3_canStand_12 rfl 1 rfl ?_
      refine g_aload_n hX dX3_canStand_13 rfl 0 rfl ?_
      refine g_getI hX hV xf3_56 dX3_canStand_14 ?_
      refine g_icmp_ne hX 31 dX3_canStand_17 (by decide) (fun hc => ?_) (fun hc => ?_)
      · have h := xif_f hc h
        refine g_iconst (v := (0 : Int32)) hX dX3_canStand_31 (by decide) ?_
        obtain ⟨hz, h⟩ := xne_inv h
        exact g_zret hX hM hz (Option.some.inj h) dX3_canStand_32
      · have h := xif_t hc h
        refine g_aload_n hX dX3_canStand_20 rfl 0 rfl ?_
        obtain ⟨S1, r2, hcS1, h⟩ := xbI_inv h
        refine g_callV hX hR hV (fun l => c3_canGrow (l := l) hX.vc hV hcS1) xc3_62 rfl ⟨by decide, by decide⟩ rfl rfl (Nat.le_of_ble_eq_true rfl) dX3_canStand_21 ?_
        refine g_if_eq hX 31 dX3_canStand_24 (by decide) (fun hc => ?_) (fun hc => ?_)
        · have h := xif_t hc h
          refine g_iconst (v := (0 : Int32)) hX dX3_canStand_31 (by decide) ?_
          obtain ⟨hz, h⟩ := xne_inv h
          exact g_zret hX hM hz (Option.some.inj h) dX3_canStand_32
        · have h := xif_f hc h
          exact g_sub [] (by rfl) (sf3_canStand_J27 hX hM hR hV h)
set_option maxRecDepth 100000 in
theorem c3_readSign {l : Launch} {K : xK} {o : Nat} (hvc : xVC (xvl K)) (hV : (3, o) ∈ xvl K) {S : xSt} {a1 : Int32} {out : xR} (h : f3_readSign S o a1 = some out) : xMet l K yX3_readSign cX3_readSign 2 none 0 0 S [xr K 3 o, .int a1] out := by
  refine xMet_of RX3 (by decide +kernel) rfl hvc (Nat.le_of_ble_eq_true rfl) ?_
  intro X hX hM hR
  show xG K X S 0 [(0, xr K 3 o), (1, .int a1)] []
  unfold f3_readSign at h
  refine g_aload_n hX dX3_readSign_0 rfl 0 rfl ?_
  refine g_getI hX hV xf3_44 dX3_readSign_1 ?_
  refine g_ldc (v := (39621 : Int32)) hX dX3_readSign_4 xk3_9 ?_
  refine g_icmp_ge hX 29 dX3_readSign_6 (by decide) (fun hc => ?_) (fun hc => ?_)
  · have h := xif_t hc h
    exact g_vret hX hM (Option.some.inj h) dX3_readSign_29
  · have h := xif_f hc h
    refine g_aload_n hX dX3_readSign_9 rfl 0 rfl ?_
    refine g_getR hX hV (xf3_10 _) dX3_readSign_10 ?_
    refine g_aload_n hX dX3_readSign_13 rfl 0 rfl ?_
    refine g_getI hX hV xf3_44 dX3_readSign_14 ?_
    refine g_iload_n hX dX3_readSign_17 rfl 1 rfl ?_
    obtain ⟨hbj1, h⟩ := xat_inv h
    obtain ⟨S2, eS2, h⟩ := xlet_inv h
    refine g_iast (n := 39621) hX (xvc_3_0 hX.vc hV) (fun _ => rfl) hbj1 dX3_readSign_18 eS2 ?_
    refine g_aload_n hX dX3_readSign_19 rfl 0 rfl ?_
    refine g_dup hX dX3_readSign_20 rfl ?_
    refine g_getI hX hV xf3_44 dX3_readSign_21 ?_
    refine g_iconst (v := (1 : Int32)) hX dX3_readSign_24 (by decide) ?_
    refine g_iadd hX dX3_readSign_25 ?_
    obtain ⟨S3, eS3, h⟩ := xlet_inv h
    refine g_putI hX hV xf3_44 dX3_readSign_26 eS3 ?_
    exact g_vret hX hM (Option.some.inj h) dX3_readSign_29
set_option maxRecDepth 100000 in
theorem sb3_readPhrase_L2 {K : xK} {X : xX} {out : xR} {o : Nat} (hX : xOK K X RX3 cX3_readPhrase 4) (hM : xM K X out none) (hR : xRm X 1 21) (hV : (3, o) ∈ xvl K)  {k2 : xSt → Int32 → Int32 → Int32 → Option xR} (hk2 : ∀ (S : xSt) (i1 : Int32) (i2 : Int32) (i3 : Int32), k2 S i1 i2 i3 = some out → xG K X S 2 [(0, xr K 3 o), (1, .int i1), (2, .int i2), (3, .int i3)] []) {S : xSt} {i1 : Int32} {i2 : Int32} {i3 : Int32} (h : b3_readPhrase_L2 o  k2 S i1 i2 i3 = some out) : xG K X S 2 [(0, xr K 3 o), (1, .int i1), (2, .int i2), (3, .int i3)] [] := by
  unfold b3_readPhrase_L2 at h
  refine g_iload_n hX dX3_readPhrase_2 rfl 3 rfl ?_
  refine g_iload_n hX dX3_readPhrase_3 rfl 1 rfl ?_
  refine g_iload_n hX dX3_readPhrase_4 rfl 2 rfl ?_
  refine g_iadd hX dX3_readPhrase_5 ?_
  refine g_icmp_ge hX 33 dX3_readPhrase_6 (by decide) (fun hc => ?_) (fun hc => ?_)
  · have h := xif_t hc h
    exact g_vret hX hM (Option.some.inj h) dX3_readPhrase_33
  · have h := xif_f hc h
    refine g_iload_n hX dX3_readPhrase_9 rfl 3 rfl ?_
    refine g_aload_n hX dX3_readPhrase_10 rfl 0 rfl ?_
    refine g_getI hX hV xf3_44 dX3_readPhrase_11 ?_
    refine g_icmp_ge hX 33 dX3_readPhrase_14 (by decide) (fun hc => ?_) (fun hc => ?_)
    · have h := xif_t hc h
      exact g_vret hX hM (Option.some.inj h) dX3_readPhrase_33
    · have h := xif_f hc h
      refine g_aload_n hX dX3_readPhrase_17 rfl 0 rfl ?_
      refine g_aload_n hX dX3_readPhrase_18 rfl 0 rfl ?_
      refine g_getR hX hV (xf3_10 _) dX3_readPhrase_19 ?_
      refine g_iload_n hX dX3_readPhrase_22 rfl 3 rfl ?_
      obtain ⟨hbj1, h⟩ := xat_inv h
      refine g_iald (n := 39621) hX (xvc_3_0 hX.vc hV) rfl hbj1 dX3_readPhrase_23 ?_
      obtain ⟨S2, hcS2, h⟩ := xbV_inv h
      refine g_callV hX hR hV (fun l => c3_readSign (l := l) hX.vc hV hcS2) xc3_69 rfl ⟨by decide, by decide⟩ rfl rfl (Nat.le_of_ble_eq_true rfl) dX3_readPhrase_24 ?_
      refine g_iinc (v := (i3 + (1 : Int32))) (lv2 := [(3, .int (i3 + (1 : Int32))), (0, xr K 3 o), (1, .int i1), (2, .int i2)]) hX dX3_readPhrase_27 3 rfl rfl (by decide) rfl ?_
      refine g_goto hX 2 dX3_readPhrase_30 (by decide) ?_
      exact g_sub [1, 2, 3, 0] (by rfl) (hk2 _ _ _ _ h)
theorem sf3_readPhrase_L2 {K : xK} {X : xX} {out : xR} {o : Nat} (hX : xOK K X RX3 cX3_readPhrase 4) (hM : xM K X out none) (hR : xRm X 1 21) (hV : (3, o) ∈ xvl K)  : ∀ (n : Nat) (S : xSt) (i1 : Int32) (i2 : Int32) (i3 : Int32) (h : f3_readPhrase_L2 o  n S i1 i2 i3 = some out), xG K X S 2 [(0, xr K 3 o), (1, .int i1), (2, .int i2), (3, .int i3)] [] := by
  intro n
  induction n with
  | zero => intro S i1 i2 i3 h; cases h
  | succ n ih => intro S i1 i2 i3 h; exact sb3_readPhrase_L2 hX hM hR hV  ih h
set_option maxRecDepth 100000 in
theorem c3_readPhrase {l : Launch} {K : xK} {o : Nat} (hvc : xVC (xvl K)) (hV : (3, o) ∈ xvl K) {S : xSt} {a1 : Int32} {a2 : Int32} {out : xR} (h : f3_readPhrase S o a1 a2 = some out) : xMet l K yX3_readPhrase cX3_readPhrase 4 none 1 21 S [xr K 3 o, .int a1, .int a2] out := by
  refine xMet_of RX3 (by decide +kernel) rfl hvc (Nat.le_of_ble_eq_true rfl) ?_
  intro X hX hM hR
  show xG K X S 0 [(0, xr K 3 o), (1, .int a1), (2, .int a2)] []
  unfold f3_readPhrase at h
  refine g_iload_n hX dX3_readPhrase_0 rfl 1 rfl ?_
  refine g_istore_n (lv2 := [(3, .int a1), (0, xr K 3 o), (1, .int a1), (2, .int a2)]) hX dX3_readPhrase_1 rfl (by decide) rfl ?_
  exact g_sub [1, 2, 3, 0] (by rfl) (sf3_readPhrase_L2 hX hM hR hV _ _ _ _ _ h)
set_option maxRecDepth 100000 in
theorem sf3_readEntry_J67 {K : xK} {X : xX} {out : xR} {o : Nat} (hX : xOK K X RX3 cX3_readEntry 2) (hM : xM K X out none) (hR : xRm X 2 44) (hV : (3, o) ∈ xvl K)  {S : xSt} {i1 : Int32} (h : f3_readEntry_J67 o  S i1 = some out) : xG K X S 67 [(0, xr K 3 o), (1, .int i1)] [] := by
  unfold f3_readEntry_J67 at h
  refine g_aload_n hX dX3_readEntry_67 rfl 0 rfl ?_
  refine g_aload_n hX dX3_readEntry_68 rfl 0 rfl ?_
  refine g_getI hX hV xf3_44 dX3_readEntry_69 ?_
  obtain ⟨S1, eS1, h⟩ := xlet_inv h
  refine g_putI hX hV xf3_66 dX3_readEntry_72 eS1 ?_
  refine g_iload_n hX dX3_readEntry_75 rfl 1 rfl ?_
  refine g_bipush (v := (8 : Int32)) hX dX3_readEntry_76 (by decide) ?_
  refine g_icmp_ge hX 94 dX3_readEntry_78 (by decide) (fun hc => ?_) (fun hc => ?_)
  · have h := xif_t hc h
    refine g_aload_n hX dX3_readEntry_94 rfl 0 rfl ?_
    refine g_aload_n hX dX3_readEntry_95 rfl 0 rfl ?_
    refine g_getR hX hV (xf3_19 _) dX3_readEntry_96 ?_
    refine g_iload_n hX dX3_readEntry_99 rfl 1 rfl ?_
    obtain ⟨hbj2, h⟩ := xat_inv h
    refine g_iald (n := 512) hX (xvc_3_7 hX.vc hV) rfl hbj2 dX3_readEntry_100 ?_
    obtain ⟨S3, eS3, h⟩ := xlet_inv h
    refine g_putI hX hV xf3_59 dX3_readEntry_101 eS3 ?_
    refine g_aload_n hX dX3_readEntry_104 rfl 0 rfl ?_
    refine g_aload_n hX dX3_readEntry_105 rfl 0 rfl ?_
    refine g_getR hX hV (xf3_16 _) dX3_readEntry_106 ?_
    refine g_iload_n hX dX3_readEntry_109 rfl 1 rfl ?_
    obtain ⟨hbj4, h⟩ := xat_inv h
    refine g_iald (n := 512) hX (xvc_3_6 hX.vc hV) rfl hbj4 dX3_readEntry_110 ?_
    refine g_aload_n hX dX3_readEntry_111 rfl 0 rfl ?_
    refine g_getR hX hV (xf3_19 _) dX3_readEntry_112 ?_
    refine g_iload_n hX dX3_readEntry_115 rfl 1 rfl ?_
    obtain ⟨hbj5, h⟩ := xat_inv h
    refine g_iald (n := 512) hX (xvc_3_7 hX.vc hV) rfl hbj5 dX3_readEntry_116 ?_
    obtain ⟨S6, hcS6, h⟩ := xbV_inv h
    refine g_callV hX hR hV (fun l => c3_readPhrase (l := l) hX.vc hV hcS6) xc3_72 rfl ⟨by decide, by decide⟩ rfl rfl (Nat.le_of_ble_eq_true rfl) dX3_readEntry_117 ?_
    exact g_vret hX hM (Option.some.inj h) dX3_readEntry_120
  · have h := xif_f hc h
    refine g_aload_n hX dX3_readEntry_81 rfl 0 rfl ?_
    refine g_iconst (v := (1 : Int32)) hX dX3_readEntry_82 (by decide) ?_
    obtain ⟨S7, eS7, h⟩ := xlet_inv h
    refine g_putI hX hV xf3_59 dX3_readEntry_83 eS7 ?_
    refine g_aload_n hX dX3_readEntry_86 rfl 0 rfl ?_
    refine g_iload_n hX dX3_readEntry_87 rfl 1 rfl ?_
    obtain ⟨S8, hcS8, h⟩ := xbV_inv h
    refine g_callV hX hR hV (fun l => c3_readSign (l := l) hX.vc hV hcS8) xc3_69 rfl ⟨by decide, by decide⟩ rfl rfl (Nat.le_of_ble_eq_true rfl) dX3_readEntry_88 ?_
    refine g_goto hX 120 dX3_readEntry_91 (by decide) ?_
    exact g_vret hX hM (Option.some.inj h) dX3_readEntry_120
set_option maxRecDepth 100000 in
theorem sf3_readEntry_J18 {K : xK} {X : xX} {out : xR} {o : Nat} (hX : xOK K X RX3 cX3_readEntry 2) (hM : xM K X out none) (hR : xRm X 2 44) (hV : (3, o) ∈ xvl K)  {S : xSt} {i1 : Int32} {k0 : Int32} {k1 : Int32} (h : f3_readEntry_J18 o  S i1 k0 k1 = some out) : xG K X S 18 [(0, xr K 3 o), (1, .int i1)] [.int k0, .int k1, xr K 3 o] := by
  unfold f3_readEntry_J18 at h
  refine g_iadd hX dX3_readEntry_18 ?_
  obtain ⟨S1, eS1, h⟩ := xlet_inv h
  refine g_putI hX hV xf3_47 dX3_readEntry_19 eS1 ?_
  refine g_aload_n hX dX3_readEntry_22 rfl 0 rfl ?_
  obtain ⟨S2, r3, hcS2, h⟩ := xbI_inv h
  refine g_callV hX hR hV (fun l => c3_canGrow (l := l) hX.vc hV hcS2) xc3_62 rfl ⟨by decide, by decide⟩ rfl rfl (Nat.le_of_ble_eq_true rfl) dX3_readEntry_23 ?_
  refine g_if_eq hX 67 dX3_readEntry_26 (by decide) (fun hc => ?_) (fun hc => ?_)
  · have h := xif_t hc h
    exact sf3_readEntry_J67 hX hM hR hV h
  · have h := xif_f hc h
    refine g_aload_n hX dX3_readEntry_29 rfl 0 rfl ?_
    refine g_getR hX hV (xf3_16 _) dX3_readEntry_30 ?_
    refine g_aload_n hX dX3_readEntry_33 rfl 0 rfl ?_
    refine g_getI hX hV xf3_56 dX3_readEntry_34 ?_
    refine g_aload_n hX dX3_readEntry_37 rfl 0 rfl ?_
    refine g_getI hX hV xf3_66 dX3_readEntry_38 ?_
    obtain ⟨hbj4, h⟩ := xat_inv h
    obtain ⟨S5, eS5, h⟩ := xlet_inv h
    refine g_iast (n := 512) hX (xvc_3_6 hX.vc hV) (fun _ => rfl) hbj4 dX3_readEntry_41 eS5 ?_
    refine g_aload_n hX dX3_readEntry_42 rfl 0 rfl ?_
    refine g_getR hX hV (xf3_19 _) dX3_readEntry_43 ?_
    refine g_aload_n hX dX3_readEntry_46 rfl 0 rfl ?_
    refine g_getI hX hV xf3_56 dX3_readEntry_47 ?_
    refine g_aload_n hX dX3_readEntry_50 rfl 0 rfl ?_
    refine g_getI hX hV xf3_59 dX3_readEntry_51 ?_
    refine g_iconst (v := (1 : Int32)) hX dX3_readEntry_54 (by decide) ?_
    refine g_iadd hX dX3_readEntry_55 ?_
    obtain ⟨hbj6, h⟩ := xat_inv h
    obtain ⟨S7, eS7, h⟩ := xlet_inv h
    refine g_iast (n := 512) hX (xvc_3_7 hX.vc hV) (fun _ => rfl) hbj6 dX3_readEntry_56 eS7 ?_
    refine g_aload_n hX dX3_readEntry_57 rfl 0 rfl ?_
    refine g_dup hX dX3_readEntry_58 rfl ?_
    refine g_getI hX hV xf3_56 dX3_readEntry_59 ?_
    refine g_iconst (v := (1 : Int32)) hX dX3_readEntry_62 (by decide) ?_
    refine g_iadd hX dX3_readEntry_63 ?_
    obtain ⟨S8, eS8, h⟩ := xlet_inv h
    refine g_putI hX hV xf3_56 dX3_readEntry_64 eS8 ?_
    exact sf3_readEntry_J67 hX hM hR hV h
set_option maxRecDepth 100000 in
theorem c3_readEntry {l : Launch} {K : xK} {o : Nat} (hvc : xVC (xvl K)) (hV : (3, o) ∈ xvl K) {S : xSt} {a1 : Int32} {out : xR} (h : f3_readEntry S o a1 = some out) : xMet l K yX3_readEntry cX3_readEntry 2 none 2 44 S [xr K 3 o, .int a1] out := by
  refine xMet_of RX3 (by decide +kernel) rfl hvc (Nat.le_of_ble_eq_true rfl) ?_
  intro X hX hM hR
  show xG K X S 0 [(0, xr K 3 o), (1, .int a1)] []
  unfold f3_readEntry at h
  refine g_aload_n hX dX3_readEntry_0 rfl 0 rfl ?_
  refine g_dup hX dX3_readEntry_1 rfl ?_
  refine g_getI hX hV xf3_47 dX3_readEntry_2 ?_
  refine g_iload_n hX dX3_readEntry_5 rfl 1 rfl ?_
  refine g_aload_n hX dX3_readEntry_6 rfl 0 rfl ?_
  refine g_getI hX hV xf3_56 dX3_readEntry_7 ?_
  refine g_icmp_ne hX 17 dX3_readEntry_10 (by decide) (fun hc => ?_) (fun hc => ?_)
  · have h := xif_f hc h
    refine g_iconst (v := (0 : Int32)) hX dX3_readEntry_17 (by decide) ?_
    exact sf3_readEntry_J18 hX hM hR hV h
  · have h := xif_t hc h
    refine g_iconst (v := (1 : Int32)) hX dX3_readEntry_13 (by decide) ?_
    refine g_goto hX 18 dX3_readEntry_14 (by decide) ?_
    exact sf3_readEntry_J18 hX hM hR hV h
set_option maxRecDepth 100000 in
theorem sf3_readAll_J91 {K : xK} {X : xX} {out : xR} {o : Nat} {o1 : Nat} (hX : xOK K X RX3 cX3_readAll 6) (hM : xM K X out none) (hR : xRm X 3 65) (hV : (3, o) ∈ xvl K) (hV1 : (32, o1) ∈ xvl K)  {S : xSt} {i2 : Int32} (h : f3_readAll_J91 o o1  S i2 = some out) : xG K X S 91 [(0, xr K 3 o), (2, .int i2)] [] := by
  unfold f3_readAll_J91 at h
  refine g_aload_n hX dX3_readAll_91 rfl 0 rfl ?_
  refine g_iload_n hX dX3_readAll_92 rfl 1 rfl ?_
  refine g_iconst (v := (2 : Int32)) hX dX3_readAll_93 (by decide) ?_
  obtain ⟨S1, hcS1, h⟩ := xbV_inv h
  refine g_callV hX hR hV (fun l => c3_noteFault (l := l) hX.vc hV hcS1) xc3_26 rfl ⟨by decide, by decide⟩ rfl rfl (Nat.le_of_ble_eq_true rfl) dX3_readAll_94 ?_
  exact g_vret hX hM (Option.some.inj h) dX3_readAll_97
set_option maxRecDepth 100000 in
theorem sf3_readAll_J77 {K : xK} {X : xX} {out : xR} {o : Nat} {o1 : Nat} (hX : xOK K X RX3 cX3_readAll 6) (hM : xM K X out none) (hR : xRm X 3 65) (hV : (3, o) ∈ xvl K) (hV1 : (32, o1) ∈ xvl K)  {S : xSt} {i4 : Int32} (h : f3_readAll_J77 o o1  S i4 = some out) : xG K X S 77 [(0, xr K 3 o), (4, .int i4)] [] := by
  unfold f3_readAll_J77 at h
  refine g_aload_n hX dX3_readAll_77 rfl 0 rfl ?_
  refine g_iload hX dX3_readAll_78 1 rfl ?_
  refine g_iconst (v := (1 : Int32)) hX dX3_readAll_80 (by decide) ?_
  obtain ⟨S1, hcS1, h⟩ := xbV_inv h
  refine g_callV hX hR hV (fun l => c3_noteFault (l := l) hX.vc hV hcS1) xc3_26 rfl ⟨by decide, by decide⟩ rfl rfl (Nat.le_of_ble_eq_true rfl) dX3_readAll_81 ?_
  exact g_vret hX hM (Option.some.inj h) dX3_readAll_84
set_option maxRecDepth 100000 in
theorem sf3_readAll_J85 {K : xK} {X : xX} {out : xR} {o : Nat} {o1 : Nat} (hX : xOK K X RX3 cX3_readAll 6) (hM : xM K X out none) (hR : xRm X 3 65) (hV : (3, o) ∈ xvl K) (hV1 : (32, o1) ∈ xvl K) {k8 : xSt → Int32 → Int32 → Option xR} (hk8 : ∀ (S : xSt) (i2 : Int32) (i4 : Int32), k8 S i2 i4 = some out → xG K X S 8 [(0, xr K 3 o), (1, xr K 32 o1), (2, .int i2), (4, .int i4)] []) {S : xSt} {i2 : Int32} {i4 : Int32} (h : f3_readAll_J85 o o1 k8 S i2 i4 = some out) : xG K X S 85 [(0, xr K 3 o), (1, xr K 32 o1), (2, .int i2), (4, .int i4)] [] := by
  unfold f3_readAll_J85 at h
  refine g_iinc (v := (i4 + (1 : Int32))) (lv2 := [(4, .int (i4 + (1 : Int32))), (0, xr K 3 o), (1, xr K 32 o1), (2, .int i2)]) hX dX3_readAll_85 3 rfl rfl (by decide) rfl ?_
  refine g_goto hX 8 dX3_readAll_88 (by decide) ?_
  exact g_sub [1, 2, 3, 0] (by rfl) (hk8 _ _ _ h)
set_option maxRecDepth 100000 in
theorem sf3_readAll_J27 {K : xK} {X : xX} {out : xR} {o : Nat} {o1 : Nat} (hX : xOK K X RX3 cX3_readAll 6) (hM : xM K X out none) (hR : xRm X 3 65) (hV : (3, o) ∈ xvl K) (hV1 : (32, o1) ∈ xvl K)  {S : xSt} {i2 : Int32} {i4 : Int32} (h : f3_readAll_J27 o o1  S i2 i4 = some out) : xG K X S 27 [(0, xr K 3 o), (2, .int i2), (4, .int i4)] [] := by
  unfold f3_readAll_J27 at h
  refine g_iload hX dX3_readAll_27 2 rfl ?_
  refine g_iconst (v := (1 : Int32)) hX dX3_readAll_29 (by decide) ?_
  refine g_iadd hX dX3_readAll_30 ?_
  refine g_iload_n hX dX3_readAll_31 rfl 1 rfl ?_
  refine g_icmp_ge hX 44 dX3_readAll_32 (by decide) (fun hc => ?_) (fun hc => ?_)
  · have h := xif_t hc h
    exact g_vret hX hM (Option.some.inj h) dX3_readAll_44
  · have h := xif_f hc h
    refine g_aload_n hX dX3_readAll_35 rfl 0 rfl ?_
    refine g_iload hX dX3_readAll_36 2 rfl ?_
    refine g_iconst (v := (1 : Int32)) hX dX3_readAll_38 (by decide) ?_
    refine g_iadd hX dX3_readAll_39 ?_
    refine g_iconst (v := (3 : Int32)) hX dX3_readAll_40 (by decide) ?_
    obtain ⟨S1, hcS1, h⟩ := xbV_inv h
    refine g_callV hX hR hV (fun l => c3_noteFault (l := l) hX.vc hV hcS1) xc3_26 rfl ⟨by decide, by decide⟩ rfl rfl (Nat.le_of_ble_eq_true rfl) dX3_readAll_41 ?_
    exact g_vret hX hM (Option.some.inj h) dX3_readAll_44
set_option maxRecDepth 100000 in
theorem sb3_readAll_L8 {K : xK} {X : xX} {out : xR} {o : Nat} {o1 : Nat} (hX : xOK K X RX3 cX3_readAll 6) (hM : xM K X out none) (hR : xRm X 3 65) (hV : (3, o) ∈ xvl K) (hV1 : (32, o1) ∈ xvl K)  {k8 : xSt → Int32 → Int32 → Option xR} (hk8 : ∀ (S : xSt) (i2 : Int32) (i4 : Int32), k8 S i2 i4 = some out → xG K X S 8 [(0, xr K 3 o), (1, xr K 32 o1), (2, .int i2), (4, .int i4)] []) {S : xSt} {i2 : Int32} {i4 : Int32} (h : b3_readAll_L8 o o1  k8 S i2 i4 = some out) : xG K X S 8 [(0, xr K 3 o), (1, xr K 32 o1), (2, .int i2), (4, .int i4)] [] := by
  unfold b3_readAll_L8 at h
  refine g_iload hX dX3_readAll_8 3 rfl ?_
  refine g_iload_n hX dX3_readAll_10 rfl 2 rfl ?_
  refine g_icmp_ge hX 91 dX3_readAll_11 (by decide) (fun hc => ?_) (fun hc => ?_)
  · have h := xif_t hc h
    exact g_sub [0, 2] (by rfl) (sf3_readAll_J91 hX hM hR hV hV1 h)
  · have h := xif_f hc h
    refine g_aload_n hX dX3_readAll_14 rfl 1 rfl ?_
    refine g_iload hX dX3_readAll_15 3 rfl ?_
    obtain ⟨hbj1, h⟩ := xat_inv h
    refine g_iald (n := 281) hX hV1 rfl hbj1 dX3_readAll_17 ?_
    refine g_istore (lv2 := [(5, .int (S 32 o1 (i4).toNatClampNeg)), (0, xr K 3 o), (1, xr K 32 o1), (2, .int i2), (4, .int i4)]) hX dX3_readAll_18 (by decide) rfl ?_
    refine g_iload hX dX3_readAll_20 0 rfl ?_
    refine g_bipush (v := (9 : Int32)) hX dX3_readAll_22 (by decide) ?_
    refine g_icmp_ne hX 45 dX3_readAll_24 (by decide) (fun hc => ?_) (fun hc => ?_)
    · have h := xif_f hc h
      refine g_iload hX dX3_readAll_45 0 rfl ?_
      refine g_bipush (v := (8 : Int32)) hX dX3_readAll_47 (by decide) ?_
      refine g_icmp_ne hX 59 dX3_readAll_49 (by decide) (fun hc => ?_) (fun hc => ?_)
      · have h := xif_f hc h
        refine g_aload_n hX dX3_readAll_59 rfl 1 rfl ?_
        refine g_iload hX dX3_readAll_60 0 rfl ?_
        obtain ⟨S2, r3, hcS2, h⟩ := xbI_inv h
        refine g_callV hX hR hV (fun l => c3_canStand (l := l) hX.vc hV hcS2) xc3_33 rfl ⟨by decide, by decide⟩ rfl rfl (Nat.le_of_ble_eq_true rfl) dX3_readAll_62 ?_
        refine g_if_eq hX 77 dX3_readAll_65 (by decide) (fun hc => ?_) (fun hc => ?_)
        · have h := xif_t hc h
          exact g_sub [1, 4] (by rfl) (sf3_readAll_J77 hX hM hR hV hV1 h)
        · have h := xif_f hc h
          refine g_aload_n hX dX3_readAll_68 rfl 1 rfl ?_
          refine g_iload hX dX3_readAll_69 0 rfl ?_
          obtain ⟨S4, hcS4, h⟩ := xbV_inv h
          refine g_callV hX hR hV (fun l => c3_readEntry (l := l) hX.vc hV hcS4) xc3_37 rfl ⟨by decide, by decide⟩ rfl rfl (Nat.le_of_ble_eq_true rfl) dX3_readAll_71 ?_
          refine g_goto hX 85 dX3_readAll_74 (by decide) ?_
          exact g_sub [1, 2, 3, 4] (by rfl) (sf3_readAll_J85 hX hM hR hV hV1 hk8 h)
      · have h := xif_t hc h
        refine g_aload_n hX dX3_readAll_52 rfl 1 rfl ?_
        obtain ⟨S5, hcS5, h⟩ := xbV_inv h
        refine g_callV hX hR hV (fun l => c3_dropPhrases (l := l) hX.vc hV hcS5) xc3_30 rfl ⟨by decide, by decide⟩ rfl rfl (Nat.le_of_ble_eq_true rfl) dX3_readAll_53 ?_
        refine g_goto hX 85 dX3_readAll_56 (by decide) ?_
        exact g_sub [1, 2, 3, 4] (by rfl) (sf3_readAll_J85 hX hM hR hV hV1 hk8 h)
    · have h := xif_t hc h
      exact g_sub [1, 3, 4] (by rfl) (sf3_readAll_J27 hX hM hR hV hV1 h)
theorem sf3_readAll_L8 {K : xK} {X : xX} {out : xR} {o : Nat} {o1 : Nat} (hX : xOK K X RX3 cX3_readAll 6) (hM : xM K X out none) (hR : xRm X 3 65) (hV : (3, o) ∈ xvl K) (hV1 : (32, o1) ∈ xvl K)  : ∀ (n : Nat) (S : xSt) (i2 : Int32) (i4 : Int32) (h : f3_readAll_L8 o o1  n S i2 i4 = some out), xG K X S 8 [(0, xr K 3 o), (1, xr K 32 o1), (2, .int i2), (4, .int i4)] [] := by
  intro n
  induction n with
  | zero => intro S i2 i4 h; cases h
  | succ n ih => intro S i2 i4 h; exact sb3_readAll_L8 hX hM hR hV hV1  ih h
set_option maxRecDepth 100000 in
theorem c3_readAll {l : Launch} {K : xK} {o : Nat} {o1 : Nat} (hvc : xVC (xvl K)) (hV : (3, o) ∈ xvl K) (hV1 : (32, o1) ∈ xvl K) {S : xSt} {a2 : Int32} {a3 : Int32} {out : xR} (h : f3_readAll S o o1 a2 a3 = some out) : xMet l K yX3_readAll cX3_readAll 6 none 3 65 S [xr K 3 o, xr K 32 o1, .int a2, .int a3] out := by
  refine xMet_of RX3 (by decide +kernel) rfl hvc (Nat.le_of_ble_eq_true rfl) ?_
  intro X hX hM hR
  show xG K X S 0 [(0, xr K 3 o), (1, xr K 32 o1), (2, .int a2), (3, .int a3)] []
  unfold f3_readAll at h
  refine g_aload_n hX dX3_readAll_0 rfl 0 rfl ?_
  refine g_iload_n hX dX3_readAll_1 rfl 3 rfl ?_
  obtain ⟨S1, hcS1, h⟩ := xbV_inv h
  refine g_callV hX hR hV (fun l => c3_begin (l := l) hX.vc hV hcS1) xc3_22 rfl ⟨by decide, by decide⟩ rfl rfl (Nat.le_of_ble_eq_true rfl) dX3_readAll_2 ?_
  refine g_iconst (v := (0 : Int32)) hX dX3_readAll_5 (by decide) ?_
  refine g_istore (lv2 := [(4, .int (0 : Int32)), (0, xr K 3 o), (1, xr K 32 o1), (2, .int a2), (3, .int a3)]) hX dX3_readAll_6 (by decide) rfl ?_
  exact g_sub [1, 2, 3, 0] (by rfl) (sf3_readAll_L8 hX hM hR hV hV1 _ _ _ _ h)
set_option maxRecDepth 100000 in
theorem sf3_firstDifference_J41 {K : xK} {X : xX} {out : xR} {o : Nat} {o1 : Nat} (hX : xOK K X RX3 cX3_firstDifference 5) (hM : xM K X out (some .int)) (hR : xRm X 1 13) (hV : (3, o) ∈ xvl K) (hV1 : (23, o1) ∈ xvl K)  {S : xSt} {i2 : Int32} {i3 : Int32} (h : f3_firstDifference_J41 o o1  S i2 i3 = some out) : xG K X S 41 [(0, xr K 3 o), (2, .int i2), (3, .int i3)] [] := by
  unfold f3_firstDifference_J41 at h
  refine g_aload_n hX dX3_firstDifference_41 rfl 0 rfl ?_
  refine g_getI hX hV xf3_44 dX3_firstDifference_42 ?_
  refine g_iload_n hX dX3_firstDifference_45 rfl 1 rfl ?_
  refine g_icmp_ne hX 54 dX3_firstDifference_46 (by decide) (fun hc => ?_) (fun hc => ?_)
  · have h := xif_f hc h
    refine g_iload_n hX dX3_firstDifference_54 rfl 2 rfl ?_
    exact g_iret hX hM (Option.some.inj h) dX3_firstDifference_55
  · have h := xif_t hc h
    refine g_bipush (v := (-6 : Int32)) hX dX3_firstDifference_49 (by decide) ?_
    refine g_goto hX 55 dX3_firstDifference_51 (by decide) ?_
    exact g_iret hX hM (Option.some.inj h) dX3_firstDifference_55
set_option maxRecDepth 100000 in
theorem sb3_firstDifference_L12 {K : xK} {X : xX} {out : xR} {o : Nat} {o1 : Nat} (hX : xOK K X RX3 cX3_firstDifference 5) (hM : xM K X out (some .int)) (hR : xRm X 1 13) (hV : (3, o) ∈ xvl K) (hV1 : (23, o1) ∈ xvl K)  {k12 : xSt → Int32 → Int32 → Int32 → Option xR} (hk12 : ∀ (S : xSt) (i2 : Int32) (i3 : Int32) (i4 : Int32), k12 S i2 i3 i4 = some out → xG K X S 12 [(0, xr K 3 o), (1, xr K 23 o1), (2, .int i2), (3, .int i3), (4, .int i4)] []) {S : xSt} {i2 : Int32} {i3 : Int32} {i4 : Int32} (h : b3_firstDifference_L12 o o1  k12 S i2 i3 i4 = some out) : xG K X S 12 [(0, xr K 3 o), (1, xr K 23 o1), (2, .int i2), (3, .int i3), (4, .int i4)] [] := by
  unfold b3_firstDifference_L12 at h
  refine g_iload hX dX3_firstDifference_12 4 rfl ?_
  refine g_iload_n hX dX3_firstDifference_14 rfl 3 rfl ?_
  refine g_icmp_ge hX 41 dX3_firstDifference_15 (by decide) (fun hc => ?_) (fun hc => ?_)
  · have h := xif_t hc h
    exact g_sub [0, 2, 3] (by rfl) (sf3_firstDifference_J41 hX hM hR hV hV1 h)
  · have h := xif_f hc h
    refine g_aload_n hX dX3_firstDifference_18 rfl 0 rfl ?_
    refine g_getR hX hV (xf3_10 _) dX3_firstDifference_19 ?_
    refine g_iload hX dX3_firstDifference_22 4 rfl ?_
    obtain ⟨hbj1, h⟩ := xat_inv h
    refine g_iald (n := 39621) hX (xvc_3_0 hX.vc hV) rfl hbj1 dX3_firstDifference_24 ?_
    refine g_aload_n hX dX3_firstDifference_25 rfl 1 rfl ?_
    refine g_iload hX dX3_firstDifference_26 4 rfl ?_
    obtain ⟨hbj2, h⟩ := xat_inv h
    refine g_iald (n := 240) hX hV1 rfl hbj2 dX3_firstDifference_28 ?_
    refine g_icmp_eq hX 35 dX3_firstDifference_29 (by decide) (fun hc => ?_) (fun hc => ?_)
    · have h := xif_t hc h
      refine g_iinc (v := (i4 + (1 : Int32))) (lv2 := [(4, .int (i4 + (1 : Int32))), (0, xr K 3 o), (1, xr K 23 o1), (2, .int i2), (3, .int i3)]) hX dX3_firstDifference_35 4 rfl rfl (by decide) rfl ?_
      refine g_goto hX 12 dX3_firstDifference_38 (by decide) ?_
      exact g_sub [1, 2, 3, 4, 0] (by rfl) (hk12 _ _ _ _ h)
    · have h := xif_f hc h
      refine g_iload hX dX3_firstDifference_32 4 rfl ?_
      exact g_iret hX hM (Option.some.inj h) dX3_firstDifference_34
theorem sf3_firstDifference_L12 {K : xK} {X : xX} {out : xR} {o : Nat} {o1 : Nat} (hX : xOK K X RX3 cX3_firstDifference 5) (hM : xM K X out (some .int)) (hR : xRm X 1 13) (hV : (3, o) ∈ xvl K) (hV1 : (23, o1) ∈ xvl K)  : ∀ (n : Nat) (S : xSt) (i2 : Int32) (i3 : Int32) (i4 : Int32) (h : f3_firstDifference_L12 o o1  n S i2 i3 i4 = some out), xG K X S 12 [(0, xr K 3 o), (1, xr K 23 o1), (2, .int i2), (3, .int i3), (4, .int i4)] [] := by
  intro n
  induction n with
  | zero => intro S i2 i3 i4 h; cases h
  | succ n ih => intro S i2 i3 i4 h; exact sb3_firstDifference_L12 hX hM hR hV hV1  ih h
set_option maxRecDepth 100000 in
theorem c3_firstDifference {l : Launch} {K : xK} {o : Nat} {o1 : Nat} (hvc : xVC (xvl K)) (hV : (3, o) ∈ xvl K) (hV1 : (23, o1) ∈ xvl K) {S : xSt} {a2 : Int32} {out : xR} (h : f3_firstDifference S o o1 a2 = some out) : xMet l K yX3_firstDifference cX3_firstDifference 5 (some .int) 1 13 S [xr K 3 o, xr K 23 o1, .int a2] out := by
  refine xMet_of RX3 (by decide +kernel) rfl hvc (Nat.le_of_ble_eq_true rfl) ?_
  intro X hX hM hR
  show xG K X S 0 [(0, xr K 3 o), (1, xr K 23 o1), (2, .int a2)] []
  unfold f3_firstDifference at h
  refine g_aload_n hX dX3_firstDifference_0 rfl 0 rfl ?_
  refine g_getI hX hV xf3_44 dX3_firstDifference_1 ?_
  refine g_iload_n hX dX3_firstDifference_4 rfl 2 rfl ?_
  refine g_min hX hR (by decide) (Nat.le_of_ble_eq_true rfl) xm3_75 xms_min xmi xmc_min dX3_firstDifference_5 ?_
  refine g_istore_n (lv2 := [(3, .int (if a2 < (S 3 o 1) then a2 else (S 3 o 1))), (0, xr K 3 o), (1, xr K 23 o1), (2, .int a2)]) hX dX3_firstDifference_8 rfl (by decide) rfl ?_
  refine g_iconst (v := (0 : Int32)) hX dX3_firstDifference_9 (by decide) ?_
  refine g_istore (lv2 := [(4, .int (0 : Int32)), (3, .int (if a2 < (S 3 o 1) then a2 else (S 3 o 1))), (0, xr K 3 o), (1, xr K 23 o1), (2, .int a2)]) hX dX3_firstDifference_10 (by decide) rfl ?_
  exact g_sub [2, 3, 4, 1, 0] (by rfl) (sf3_firstDifference_L12 hX hM hR hV hV1 _ _ _ _ _ h)
