set_option maxRecDepth 100000 in
theorem sf1_record_J19 {K : xK} {X : xX} {out : xR} {o1 : Nat} (hX : xOK K X RX1 cX1_record 2) (hM : xM K X out none) (hR : xRm X 2 39) (hV : (1, 0) ∈ xvl K) (hV1 : (4, o1) ∈ xvl K)  {S : xSt} {k0 : Int32} (h : f1_record_J19 o1  S k0 = some out) : xG K X S 19 [(0, xr K 1 0), (1, xr K 4 o1)] [.int k0, xr K 1 0] := by
  unfold f1_record_J19 at h
  obtain ⟨S1, eS1, h⟩ := xlet_inv h
  refine g_putI hX hV xf1_18 dX1_record_19 eS1 ?_
  refine g_aload_n hX dX1_record_22 rfl 0 rfl ?_
  refine g_aload_n hX dX1_record_23 rfl 0 rfl ?_
  refine g_getI hX hV xf1_22 dX1_record_24 ?_
  refine g_iconst (v := (1 : Int32)) hX dX1_record_27 (by decide) ?_
  refine g_iadd hX dX1_record_28 ?_
  refine g_bipush (v := (6 : Int32)) hX dX1_record_29 (by decide) ?_
  refine g_min hX hR (by decide) (Nat.le_of_ble_eq_true rfl) xm1_25 xms_min xmi xmc_min dX1_record_31 ?_
  obtain ⟨S2, eS2, h⟩ := xlet_inv h
  refine g_putI hX hV xf1_22 dX1_record_34 eS2 ?_
  refine g_aload_n hX dX1_record_37 rfl 1 rfl ?_
  refine g_aload_n hX dX1_record_38 rfl 0 rfl ?_
  refine g_getR hX hV (xf1_11 _) dX1_record_39 ?_
  refine g_aload_n hX dX1_record_42 rfl 0 rfl ?_
  refine g_getI hX hV xf1_18 dX1_record_43 ?_
  obtain ⟨hbj3, h⟩ := xat_inv h
  refine g_aald (b := 1) hX (xvc_1_0 hX.vc hV) rfl hbj3 dX1_record_46 ?_
  obtain ⟨S4, hcS4, h⟩ := xbV_inv h
  refine g_callS hX hR (fun l => c6_copyState (l := l) hX.vc hV1 (xvc_s14 hX.vc (xvc_1_0 hX.vc hV) (xin_lt hbj3)) hcS4) xc1_31 rfl ⟨by decide, by decide⟩ rfl rfl (Nat.le_of_ble_eq_true rfl) dX1_record_47 ?_
  exact g_vret hX hM (Option.some.inj h) dX1_record_50
set_option maxRecDepth 100000 in
theorem c1_record {l : Launch} {K : xK} {o1 : Nat} (hvc : xVC (xvl K)) (hV : (1, 0) ∈ xvl K) (hV1 : (4, o1) ∈ xvl K) {S : xSt}  {out : xR} (h : f1_record S o1  = some out) : xMet l K yX1_record cX1_record 2 none 2 39 S [xr K 1 0, xr K 4 o1] out := by
  refine xMet_of RX1 (by decide +kernel) rfl hvc (Nat.le_of_ble_eq_true rfl) ?_
  intro X hX hM hR
  show xG K X S 0 [(0, xr K 1 0), (1, xr K 4 o1)] []
  unfold f1_record at h
  refine g_aload_n hX dX1_record_0 rfl 0 rfl ?_
  refine g_aload_n hX dX1_record_1 rfl 0 rfl ?_
  refine g_getI hX hV xf1_18 dX1_record_2 ?_
  refine g_iconst (v := (5 : Int32)) hX dX1_record_5 (by decide) ?_
  refine g_icmp_lt hX 13 dX1_record_6 (by decide) (fun hc => ?_) (fun hc => ?_)
  · have h := xif_t hc h
    refine g_aload_n hX dX1_record_13 rfl 0 rfl ?_
    refine g_getI hX hV xf1_18 dX1_record_14 ?_
    refine g_iconst (v := (1 : Int32)) hX dX1_record_17 (by decide) ?_
    refine g_iadd hX dX1_record_18 ?_
    exact sf1_record_J19 hX hM hR hV hV1 h
  · have h := xif_f hc h
    refine g_iconst (v := (0 : Int32)) hX dX1_record_9 (by decide) ?_
    refine g_goto hX 19 dX1_record_10 (by decide) ?_
    exact sf1_record_J19 hX hM hR hV hV1 h
set_option maxRecDepth 100000 in
theorem c3_dropPhrases {l : Launch} {K : xK} {o : Nat} (hvc : xVC (xvl K)) (hV : (3, o) ∈ xvl K) {S : xSt}  {out : xR} (h : f3_dropPhrases S o  = some out) : xMet l K yX3_dropPhrases cX3_dropPhrases 1 none 0 0 S [xr K 3 o] out := by
  refine xMet_of RX3 (by decide +kernel) rfl hvc (Nat.le_of_ble_eq_true rfl) ?_
  intro X hX hM hR
  show xG K X S 0 [(0, xr K 3 o)] []
  unfold f3_dropPhrases at h
  refine g_aload_n hX dX3_dropPhrases_0 rfl 0 rfl ?_
  refine g_bipush (v := (10 : Int32)) hX dX3_dropPhrases_1 (by decide) ?_
  obtain ⟨S1, eS1, h⟩ := xlet_inv h
  refine g_putI hX hV xf3_56 dX3_dropPhrases_3 eS1 ?_
  refine g_aload_n hX dX3_dropPhrases_6 rfl 0 rfl ?_
  refine g_iconst (v := (0 : Int32)) hX dX3_dropPhrases_7 (by decide) ?_
  obtain ⟨S2, eS2, h⟩ := xlet_inv h
  refine g_putI hX hV xf3_59 dX3_dropPhrases_8 eS2 ?_
  exact g_vret hX hM (Option.some.inj h) dX3_dropPhrases_11
set_option maxRecDepth 100000 in
theorem c3_begin {l : Launch} {K : xK} {o : Nat} (hvc : xVC (xvl K)) (hV : (3, o) ∈ xvl K) {S : xSt} {a1 : Int32} {out : xR} (h : f3_begin S o a1 = some out) : xMet l K yX3_begin cX3_begin 2 none 1 20 S [xr K 3 o, .int a1] out := by
  refine xMet_of RX3 (by decide +kernel) rfl hvc (Nat.le_of_ble_eq_true rfl) ?_
  intro X hX hM hR
  show xG K X S 0 [(0, xr K 3 o), (1, .int a1)] []
  unfold f3_begin at h
  refine g_aload_n hX dX3_begin_0 rfl 0 rfl ?_
  refine g_iconst (v := (1 : Int32)) hX dX3_begin_1 (by decide) ?_
  refine g_iload_n hX dX3_begin_2 rfl 1 rfl ?_
  refine g_ishl hX dX3_begin_3 ?_
  obtain ⟨S1, eS1, h⟩ := xlet_inv h
  refine g_putI hX hV xf3_40 dX3_begin_4 eS1 ?_
  refine g_aload_n hX dX3_begin_7 rfl 0 rfl ?_
  refine g_iconst (v := (0 : Int32)) hX dX3_begin_8 (by decide) ?_
  obtain ⟨S2, eS2, h⟩ := xlet_inv h
  refine g_putI hX hV xf3_44 dX3_begin_9 eS2 ?_
  refine g_aload_n hX dX3_begin_12 rfl 0 rfl ?_
  refine g_iconst (v := (0 : Int32)) hX dX3_begin_13 (by decide) ?_
  obtain ⟨S3, eS3, h⟩ := xlet_inv h
  refine g_putI hX hV xf3_47 dX3_begin_14 eS3 ?_
  refine g_aload_n hX dX3_begin_17 rfl 0 rfl ?_
  refine g_bipush (v := (-6 : Int32)) hX dX3_begin_18 (by decide) ?_
  obtain ⟨S4, eS4, h⟩ := xlet_inv h
  refine g_putI hX hV xf3_50 dX3_begin_20 eS4 ?_
  refine g_aload_n hX dX3_begin_23 rfl 0 rfl ?_
  refine g_iconst (v := (0 : Int32)) hX dX3_begin_24 (by decide) ?_
  obtain ⟨S5, eS5, h⟩ := xlet_inv h
  refine g_putI hX hV xf3_53 dX3_begin_25 eS5 ?_
  refine g_aload_n hX dX3_begin_28 rfl 0 rfl ?_
  obtain ⟨S6, hcS6, h⟩ := xbV_inv h
  refine g_callV hX hR hV (fun l => c3_dropPhrases (l := l) hX.vc hV hcS6) xc3_30 rfl ⟨by decide, by decide⟩ rfl rfl (Nat.le_of_ble_eq_true rfl) dX3_begin_29 ?_
  exact g_vret hX hM (Option.some.inj h) dX3_begin_32
set_option maxRecDepth 100000 in
theorem c3_noteFault {l : Launch} {K : xK} {o : Nat} (hvc : xVC (xvl K)) (hV : (3, o) ∈ xvl K) {S : xSt} {a1 : Int32} {a2 : Int32} {out : xR} (h : f3_noteFault S o a1 a2 = some out) : xMet l K yX3_noteFault cX3_noteFault 3 none 0 0 S [xr K 3 o, .int a1, .int a2] out := by
  refine xMet_of RX3 (by decide +kernel) rfl hvc (Nat.le_of_ble_eq_true rfl) ?_
  intro X hX hM hR
  show xG K X S 0 [(0, xr K 3 o), (1, .int a1), (2, .int a2)] []
  unfold f3_noteFault at h
  refine g_aload_n hX dX3_noteFault_0 rfl 0 rfl ?_
  refine g_iload_n hX dX3_noteFault_1 rfl 1 rfl ?_
  obtain ⟨S1, eS1, h⟩ := xlet_inv h
  refine g_putI hX hV xf3_50 dX3_noteFault_2 eS1 ?_
  refine g_aload_n hX dX3_noteFault_5 rfl 0 rfl ?_
  refine g_iload_n hX dX3_noteFault_6 rfl 2 rfl ?_
  obtain ⟨S2, eS2, h⟩ := xlet_inv h
  refine g_putI hX hV xf3_53 dX3_noteFault_7 eS2 ?_
  exact g_vret hX hM (Option.some.inj h) dX3_noteFault_10
set_option maxRecDepth 100000 in
theorem c3_canGrow {l : Launch} {K : xK} {o : Nat} (hvc : xVC (xvl K)) (hV : (3, o) ∈ xvl K) {S : xSt}  {out : xR} (h : f3_canGrow S o  = some out) : xMet l K yX3_canGrow cX3_canGrow 1 (some .boolean) 0 0 S [xr K 3 o] out := by
  refine xMet_of RX3 (by decide +kernel) rfl hvc (Nat.le_of_ble_eq_true rfl) ?_
  intro X hX hM hR
  show xG K X S 0 [(0, xr K 3 o)] []
  unfold f3_canGrow at h
  refine g_aload_n hX dX3_canGrow_0 rfl 0 rfl ?_
  refine g_getI hX hV xf3_59 dX3_canGrow_1 ?_
  refine g_if_le hX 32 dX3_canGrow_4 (by decide) (fun hc => ?_) (fun hc => ?_)
  · have h := xif_t hc h
    refine g_iconst (v := (0 : Int32)) hX dX3_canGrow_32 (by decide) ?_
    obtain ⟨hz, h⟩ := xne_inv h
    exact g_zret hX hM hz (Option.some.inj h) dX3_canGrow_33
  · have h := xif_f hc h
    refine g_aload_n hX dX3_canGrow_7 rfl 0 rfl ?_
    refine g_getI hX hV xf3_56 dX3_canGrow_8 ?_
    refine g_aload_n hX dX3_canGrow_11 rfl 0 rfl ?_
    refine g_getI hX hV xf3_40 dX3_canGrow_12 ?_
    refine g_icmp_ge hX 32 dX3_canGrow_15 (by decide) (fun hc => ?_) (fun hc => ?_)
    · have h := xif_t hc h
      refine g_iconst (v := (0 : Int32)) hX dX3_canGrow_32 (by decide) ?_
      obtain ⟨hz, h⟩ := xne_inv h
      exact g_zret hX hM hz (Option.some.inj h) dX3_canGrow_33
    · have h := xif_f hc h
      refine g_aload_n hX dX3_canGrow_18 rfl 0 rfl ?_
      refine g_getI hX hV xf3_56 dX3_canGrow_19 ?_
      refine g_sipush (v := (512 : Int32)) hX dX3_canGrow_22 (by decide) ?_
      refine g_icmp_ge hX 32 dX3_canGrow_25 (by decide) (fun hc => ?_) (fun hc => ?_)
      · have h := xif_t hc h
        refine g_iconst (v := (0 : Int32)) hX dX3_canGrow_32 (by decide) ?_
        obtain ⟨hz, h⟩ := xne_inv h
        exact g_zret hX hM hz (Option.some.inj h) dX3_canGrow_33
      · have h := xif_f hc h
        refine g_iconst (v := (1 : Int32)) hX dX3_canGrow_28 (by decide) ?_
        refine g_goto hX 33 dX3_canGrow_29 (by decide) ?_
        obtain ⟨hz, h⟩ := xne_inv h
        exact g_zret hX hM hz (Option.some.inj h) dX3_canGrow_33
set_option maxRecDepth 100000 in
theorem sf3_canStand_J27 {K : xK} {X : xX} {out : xR} {o : Nat} (hX : xOK K X RX3 cX3_canStand 2) (hM : xM K X out (some .boolean)) (hR : xRm X 1 20) (hV : (3, o) ∈ xvl K)  {S : xSt}  (h : f3_canStand_J27 o  S  = some out) : xG K X S 27 [] [] := by
  unfold f3_canStand_J27 at h
  refine g_iconst (v := (1 : Int32)) hX dX3_canStand_27 (by decide) ?_
  refine g_goto hX 32 dX3_canStand_28 (by decide) ?_
  obtain ⟨hz, h⟩ := xne_inv h
  exact g_zret hX hM hz (Option.some.inj h) dX3_canStand_32
set_option maxRecDepth 100000 in
theorem c3_canStand {l : Launch} {K : xK} {o : Nat} (hvc : xVC (xvl K)) (hV : (3, o) ∈ xvl K) {S : xSt} {a1 : Int32} {out : xR} (h : f3_canStand S o a1 = some out) : xMet l K yX3_canStand cX3_canStand 2 (some .boolean) 1 20 S [xr K 3 o, .int a1] out := by
  refine xMet_of RX3 (by decide +kernel) rfl hvc (Nat.le_of_ble_eq_true rfl) ?_
  intro X hX hM hR
  show xG K X S 0 [(0, xr K 3 o), (1, .int a1)] []
  unfold f3_canStand at h
  refine g_iload_n hX dX3_canStand_0 rfl 1 rfl ?_
  refine g_if_lt hX 31 dX3_canStand_1 (by decide) (fun hc => ?_) (fun hc => ?_)
  · have h := xif_t hc h
    refine g_iconst (v := (0 : Int32)) hX dX3_canStand_31 (by decide) ?_
    obtain ⟨hz, h⟩ := xne_inv h
    exact g_zret hX hM hz (Option.some.inj h) dX3_canStand_32
  · have h := xif_f hc h
    refine g_iload_n hX dX3_canStand_4 rfl 1 rfl ?_
    refine g_aload_n hX dX3_canStand_5 rfl 0 rfl ?_
    refine g_getI hX hV xf3_56 dX3_canStand_6 ?_
    refine g_icmp_lt hX 27 dX3_canStand_9 (by decide) (fun hc => ?_) (fun hc => ?_)
    · have h := xif_t hc h
      exact g_sub [] (by rfl) (sf3_canStand_J27 hX hM hR hV h)
    · have h := xif_f hc h
      refine g_iload_n hX dX3_canStand_12 rfl 1 rfl ?_
      refine g_aload_n hX dX3_canStand_13 rfl 0 rfl ?_
      refine g_getI hX hV xf3_56 dX3_canStand_14 ?_
      refine g_icmp_ne hX 31 dX3_canStand_17 (by decide) (fun hc => ?_) (fun hc => ?_)
      · have h := xif_f hc h
        refine g_iconst (v := (0 : Int32)) hX dX3_canStand_31 (by decide) ?_
        obtain ⟨hz, h⟩ := xne_inv h
        exact g_zret hX hM hz (Option.some.inj h) dX3_canStand_32
      · have h := xif_t hc h
        refine g_aload_n hX dX3_canStand_20 rfl 0 rfl ?_
        obtain ⟨S1, r2, hcS1, h⟩ := xbI_inv h
        refine g_callV hX hR hV (fun l => c3_canGrow (l := l) hX.vc hV hcS1) xc3_62 rfl ⟨by decide, by decide⟩ rfl rfl (Nat.le_of_ble_eq_true rfl) dX3_canStand_21 ?_
        refine g_if_eq hX 31 dX3_canStand_24 (by decide) (fun hc => ?_) (fun hc => ?_)
        · have h := xif_t hc h
          refine g_iconst (v := (0 : Int32)) hX dX3_canStand_31 (by decide) ?_
          obtain ⟨hz, h⟩ := xne_inv h
          exact g_zret hX hM hz (Option.some.inj h) dX3_canStand_32
        · have h := xif_f hc h
          exact g_sub [] (by rfl) (sf3_canStand_J27 hX hM hR hV h)
set_option maxRecDepth 100000 in
theorem c3_readSign {l : Launch} {K : xK} {o : Nat} (hvc : xVC (xvl K)) (hV : (3, o) ∈ xvl K) {S : xSt} {a1 : Int32} {out : xR} (h : f3_readSign S o a1 = some out) : xMet l K yX3_readSign cX3_readSign 2 none 0 0 S [xr K 3 o, .int a1] out := by
  refine xMet_of RX3 (by decide +kernel) rfl hvc (Nat.le_of_ble_eq_true rfl) ?_
  intro X hX hM hR
  show xG K X S 0 [(0, xr K 3 o), (1, .int a1)] []
  unfold f3_readSign at h
  refine g_aload_n hX dX3_readSign_0 rfl 0 rfl ?_
  refine g_getI hX hV xf3_44 dX3_readSign_1 ?_
  refine g_ldc (v := (39621 : Int32)) hX dX3_readSign_4 xk3_9 ?_
  refine g_icmp_ge hX 29 dX3_readSign_6 (by decide) (fun hc => ?_) (fun hc => ?_)
  · have h := xif_t hc h
    exact g_vret hX hM (Option.some.inj h) dX3_readSign_29
  · have h := xif_f hc h
    refine g_aload_n hX dX3_readSign_9 rfl 0 rfl ?_
    refine g_getR hX hV (xf3_10 _) dX3_readSign_10 ?_
    refine g_aload_n hX dX3_readSign_13 rfl 0 rfl ?_
    refine g_getI hX hV xf3_44 dX3_readSign_14 ?_
    refine g_iload_n hX dX3_readSign_17 rfl 1 rfl ?_
    obtain ⟨hbj1, h⟩ := xat_inv h
    obtain ⟨S2, eS2, h⟩ := xlet_inv h
    refine g_iast (n := 39621) hX (xvc_3_0 hX.vc hV) (fun _ => rfl) hbj1 dX3_readSign_18 eS2 ?_
    refine g_aload_n hX dX3_readSign_19 rfl 0 rfl ?_
    refine g_dup hX dX3_readSign_20 rfl ?_
    refine g_getI hX hV xf3_44 dX3_readSign_21 ?_
    refine g_iconst (v := (1 : Int32)) hX dX3_readSign_24 (by decide) ?_
    refine g_iadd hX dX3_readSign_25 ?_
    obtain ⟨S3, eS3, h⟩ := xlet_inv h
    refine g_putI hX hV xf3_44 dX3_readSign_26 eS3 ?_
    exact g_vret hX hM (Option.some.inj h) dX3_readSign_29
set_option maxRecDepth 100000 in
theorem sb3_readPhrase_L2 {K : xK} {X : xX} {out : xR} {o : Nat} (hX : xOK K X RX3 cX3_readPhrase 4) (hM : xM K X out none) (hR : xRm X 1 21) (hV : (3, o) ∈ xvl K)  {k2 : xSt → Int32 → Int32 → Int32 → Option xR} (hk2 : ∀ (S : xSt) (i1 : Int32) (i2 : Int32) (i3 : Int32), k2 S i1 i2 i3 = some out → xG K X S 2 [(0, xr K 3 o), (1, .int i1), (2, .int i2), (3, .int i3)] []) {S : xSt} {i1 : Int32} {i2 : Int32} {i3 : Int32} (h : b3_readPhrase_L2 o  k2 S i1 i2 i3 = some out) : xG K X S 2 [(0, xr K 3 o), (1, .int i1), (2, .int i2), (3, .int i3)] [] := by
  unfold b3_readPhrase_L2 at h
  refine g_iload_n hX dX3_readPhrase_2 rfl 3 rfl ?_
  refine g_iload_n hX dX3_readPhrase_3 rfl 1 rfl ?_
  refine g_iload_n hX dX3_readPhrase_4 rfl 2 rfl ?_
  refine g_iadd hX dX3_readPhrase_5 ?_
  refine g_icmp_ge hX 33 dX3_readPhrase_6 (by decide) (fun hc => ?_) (fun hc => ?_)
  · have h := xif_t hc h
    exact g_vret hX hM (Option.some.inj h) dX3_readPhrase_33
  · have h := xif_f hc h
    refine g_iload_n hX dX3_readPhrase_9 rfl 3 rfl ?_
    refine g_aload_n hX dX3_readPhrase_10 rfl 0 rfl ?_
    refine g_getI hX hV xf3_44 dX3_readPhrase_11 ?_
    refine g_icmp_ge hX 33 dX3_readPhrase_14 (by decide) (fun hc => ?_) (fun hc => ?_)
    · have h := xif_t hc h
      exact g_vret hX hM (Option.some.inj h) dX3_readPhrase_33
    · have h := xif_f hc h
      refine g_aload_n hX dX3_readPhrase_17 rfl 0 rfl ?_
      refine g_aload_n hX dX3_readPhrase_18 rfl 0 rfl ?_
      refine g_getR hX hV (xf3_10 _) dX3_readPhrase_19 ?_
      refine g_iload_n hX dX3_readPhrase_22 rfl 3 rfl ?_
      obtain ⟨hbj1, h⟩ := xat_inv h
      refine g_iald (n := 39621) hX (xvc_3_0 hX.vc hV) rfl hbj1 dX3_readPhrase_23 ?_
      obtain ⟨S2, hcS2, h⟩ := xbV_inv h
      refine g_callV hX hR hV (fun l => c3_readSign (l := l) hX.vc hV hcS2) xc3_69 rfl ⟨by decide, by decide⟩ rfl rfl (Nat.le_of_ble_eq_true rfl) dX3_readPhrase_24 ?_
      refine g_iinc (v := (i3 + (1 : Int32))) (lv2 := [(3, .int (i3 + (1 : Int32))), (0, xr K 3 o), (1, .int i1), (2, .int i2)]) hX dX3_readPhrase_27 3 rfl rfl (by decide) rfl ?_
      refine g_goto hX 2 dX3_readPhrase_30 (by decide) ?_
      exact g_sub [1, 2, 3, 0] (by rfl) (hk2 _ _ _ _ h)
theorem sf3_readPhrase_L2 {K : xK} {X : xX} {out : xR} {o : Nat} (hX : xOK K X RX3 cX3_readPhrase 4) (hM : xM K X out none) (hR : xRm X 1 21) (hV : (3, o) ∈ xvl K)  : ∀ (n : Nat) (S : xSt) (i1 : Int32) (i2 : Int32) (i3 : Int32) (h : f3_readPhrase_L2 o  n S i1 i2 i3 = some out), xG K X S 2 [(0, xr K 3 o), (1, .int i1), (2, .int i2), (3, .int i3)] [] := by
  intro n
  induction n with
  | zero => intro S i1 i2 i3 h; cases h
  | succ n ih => intro S i1 i2 i3 h; exact sb3_readPhrase_L2 hX hM hR hV  ih h
set_option maxRecDepth 100000 in
theorem c3_readPhrase {l : Launch} {K : xK} {o : Nat} (hvc : xVC (xvl K)) (hV : (3, o) ∈ xvl K) {S : xSt} {a1 : Int32} {a2 : Int32} {out : xR} (h : f3_readPhrase S o a1 a2 = some out) : xMet l K yX3_readPhrase cX3_readPhrase 4 none 1 21 S [xr K 3 o, .int a1, .int a2] out := by
  refine xMet_of RX3 (by decide +kernel) rfl hvc (Nat.le_of_ble_eq_true rfl) ?_
  intro X hX hM hR
  show xG K X S 0 [(0, xr K 3 o), (1, .int a1), (2, .int a2)] []
  unfold f3_readPhrase at h
  refine g_iload_n hX dX3_readPhrase_0 rfl 1 rfl ?_
  refine g_istore_n (lv2 := [(3, .int a1), (0, xr K 3 o), (1, .int a1), (2, .int a2)]) hX dX3_readPhrase_1 rfl (by decide) rfl ?_
  exact g_sub [1, 2, 3, 0] (by rfl) (sf3_readPhrase_L2 hX hM hR hV _ _ _ _ _ h)
set_option maxRecDepth 100000 in
theorem sf3_readEntry_J67 {K : xK} {X : xX} {out : xR} {o : Nat} (hX : xOK K X RX3 cX3_readEntry 2) (hM : xM K X out none) (hR : xRm X 2 44) (hV : (3, o) ∈ xvl K)  {S : xSt} {i1 : Int32} (h : f3_readEntry_J67 o  S i1 = some out) : xG K X S 67 [(0, xr K 3 o), (1, .int i1)] [] := by
  unfold f3_readEntry_J67 at h
  refine g_aload_n hX dX3_readEntry_67 rfl 0 rfl ?_
  refine g_aload_n hX dX3_readEntry_68 rfl 0 rfl ?_
  refine g_getI hX hV xf3_44 dX3_readEntry_69 ?_
  obtain ⟨S1, eS1, h⟩ := xlet_inv h
  refine g_putI hX hV xf3_66 dX3_readEntry_72 eS1 ?_
  refine g_iload_n hX dX3_readEntry_75 rfl 1 rfl ?_
  refine g_bipush (v := (8 : Int32)) hX dX3_readEntry_76 (by decide) ?_
  refine g_icmp_ge hX 94 dX3_readEntry_78 (by decide) (fun hc => ?_) (fun hc => ?_)
  · have h := xif_t hc h
    refine g_aload_n hX dX3_readEntry_94 rfl 0 rfl ?_
    refine g_aload_n hX dX3_readEntry_95 rfl 0 rfl ?_
    refine g_getR hX hV (xf3_19 _) dX3_readEntry_96 ?_
    refine g_iload_n hX dX3_readEntry_99 rfl 1 rfl ?_
    obtain ⟨hbj2, h⟩ := xat_inv h
    refine g_iald (n := 512) hX (xvc_3_7 hX.vc hV) rfl hbj2 dX3_readEntry_100 ?_
    obtain ⟨S3, eS3, h⟩ := xlet_inv h
    refine g_putI hX hV xf3_59 dX3_readEntry_101 eS3 ?_
    refine g_aload_n hX dX3_readEntry_104 rfl 0 rfl ?_
    refine g_aload_n hX dX3_readEntry_105 rfl 0 rfl ?_
    refine g_getR hX hV (xf3_16 _) dX3_readEntry_106 ?_
    refine g_iload_n hX dX3_readEntry_109 rfl 1 rfl ?_
    obtain ⟨hbj4, h⟩ := xat_inv h
    refine g_iald (n := 512) hX (xvc_3_6 hX.vc hV) rfl hbj4 dX3_readEntry_110 ?_
    refine g_aload_n hX dX3_readEntry_111 rfl 0 rfl ?_
    refine g_getR hX hV (xf3_19 _) dX3_readEntry_112 ?_
    refine g_iload_n hX dX3_readEntry_115 rfl 1 rfl ?_
    obtain ⟨hbj5, h⟩ := xat_inv h
    refine g_iald (n := 512) hX (xvc_3_7 hX.vc hV) rfl hbj5 dX3_readEntry_116 ?_
    obtain ⟨S6, hcS6, h⟩ := xbV_inv h
    refine g_callV hX hR hV (fun l => c3_readPhrase (l := l) hX.vc hV hcS6) xc3_72 rfl ⟨by decide, by decide⟩ rfl rfl (Nat.le_of_ble_eq_true rfl) dX3_readEntry_117 ?_
    exact g_vret hX hM (Option.some.inj h) dX3_readEntry_120
  · have h := xif_f hc h
    refine g_aload_n hX dX3_readEntry_81 rfl 0 rfl ?_
    refine g_iconst (v := (1 : Int32)) hX dX3_readEntry_82 (by decide) ?_
    obtain ⟨S7, eS7, h⟩ := xlet_inv h
    refine g_putI hX hV xf3_59 dX3_readEntry_83 eS7 ?_
    refine g_aload_n hX dX3_readEntry_86 rfl 0 rfl ?_
    refine g_iload_n hX dX3_readEntry_87 rfl 1 rfl ?_
    obtain ⟨S8, hcS8, h⟩ := xbV_inv h
    refine g_callV hX hR hV (fun l => c3_readSign (l := l) hX.vc hV hcS8) xc3_69 rfl ⟨by decide, by decide⟩ rfl rfl (Nat.le_of_ble_eq_true rfl) dX3_readEntry_88 ?_
    refine g_goto hX 120 dX3_readEntry_91 (by decide) ?_
    exact g_vret hX hM (Option.some.inj h) dX3_readEntry_120
set_option maxRecDepth 100000 in
theorem sf3_readEntry_J18 {K : xK} {X : xX} {out : xR} {o : Nat} (hX : xOK K X RX3 cX3_readEntry 2) (hM : xM K X out none) (hR : xRm X 2 44) (hV : (3, o) ∈ xvl K)  {S : xSt} {i1 : Int32} {k0 : Int32} {k1 : Int32} (h : f3_readEntry_J18 o  S i1 k0 k1 = some out) : xG K X S 18 [(0, xr K 3 o), (1, .int i1)] [.int k0, .int k1, xr K 3 o] := by
  unfold f3_readEntry_J18 at h
  refine g_iadd hX dX3_readEntry_18 ?_
  obtain ⟨S1, eS1, h⟩ := xlet_inv h
  refine g_putI hX hV xf3_47 dX3_readEntry_19 eS1 ?_
  refine g_aload_n hX dX3_readEntry_22 rfl 0 rfl ?_
  obtain ⟨S2, r3, hcS2, h⟩ := xbI_inv h
  refine g_callV hX hR hV (fun l => c3_canGrow (l := l) hX.vc hV hcS2) xc3_62 rfl ⟨by decide, by decide⟩ rfl rfl (Nat.le_of_ble_eq_true rfl) dX3_readEntry_23 ?_
  refine g_if_eq hX 67 dX3_readEntry_26 (by decide) (fun hc => ?_) (fun hc => ?_)
  · have h := xif_t hc h
    exact sf3_readEntry_J67 hX hM hR hV h
  · have h := xif_f hc h
    refine g_aload_n hX dX3_readEntry_29 rfl 0 rfl ?_
    refine g_getR hX hV (xf3_16 _) dX3_readEntry_30 ?_
    refine g_aload_n hX dX3_readEntry_33 rfl 0 rfl ?_
    refine g_getI hX hV xf3_56 dX3_readEntry_34 ?_
    refine g_aload_n hX dX3_readEntry_37 rfl 0 rfl ?_
    refine g_getI hX hV xf3_66 dX3_readEntry_38 ?_
    obtain ⟨hbj4, h⟩ := xat_inv h
    obtain ⟨S5, eS5, h⟩ := xlet_inv h
    refine g_iast (n := 512) hX (xvc_3_6 hX.vc hV) (fun _ => rfl) hbj4 dX3_readEntry_41 eS5 ?_
    refine g_aload_n hX dX3_readEntry_42 rfl 0 rfl ?_
    refine g_getR hX hV (xf3_19 _) dX3_readEntry_43 ?_
    refine g_aload_n hX dX3_readEntry_46 rfl 0 rfl ?_
    refine g_getI hX hV xf3_56 dX3_readEntry_47 ?_
    refine g_aload_n hX dX3_readEntry_50 rfl 0 rfl ?_
    refine g_getI hX hV xf3_59 dX3_readEntry_51 ?_
    refine g_iconst (v := (1 : Int32)) hX dX3_readEntry_54 (by decide) ?_
    refine g_iadd hX dX3_readEntry_55 ?_
    obtain ⟨hbj6, h⟩ := xat_inv h
    obtain ⟨S7, eS7, h⟩ := xlet_inv h
    refine g_iast (n := 512) hX (xvc_3_7 hX.vc hV) (fun _ => rfl) hbj6 dX3_readEntry_56 eS7 ?_
    refine g_aload_n hX dX3_readEntry_57 rfl 0 rfl ?_
    refine g_dup hX dX3_readEntry_58 rfl ?_
    refine g_getI hX hV xf3_56 dX3_readEntry_59 ?_
    refine g_iconst (v := (1 : Int32)) hX dX3_readEntry_62 (by decide) ?_
    refine g_iadd hX dX3_readEntry_63 ?_
    obtain ⟨S8, eS8, h⟩ := xlet_inv h
    refine g_putI hX hV xf3_56 dX3_readEntry_64 eS8 ?_
    exact sf3_readEntry_J67 hX hM hR hV h
set_option maxRecDepth 100000 in
theorem c3_readEntry {l : Launch} {K : xK} {o : Nat} (hvc : xVC (xvl K)) (hV : (3, o) ∈ xvl K) {S : xSt} {a1 : Int32} {out : xR} (h : f3_readEntry S o a1 = some out) : xMet l K yX3_readEntry cX3_readEntry 2 none 2 44 S [xr K 3 o, .int a1] out := by
  refine xMet_of RX3 (by decide +kernel) rfl hvc (Nat.le_of_ble_eq_true rfl) ?_
  intro X hX hM hR
  show xG K X S 0 [(0, xr K 3 o), (1, .int a1)] []
  unfold f3_readEntry at h
  refine g_aload_n hX dX3_readEntry_0 rfl 0 rfl ?_
  refine g_dup hX dX3_readEntry_1 rfl ?_
  refine g_getI hX hV xf3_47 dX3_readEntry_2 ?_
  refine g_iload_n hX dX3_readEntry_5 rfl 1 rfl ?_
  refine g_aload_n hX dX3_readEntry_6 rfl 0 rfl ?_
  refine g_getI hX hV xf3_56 dX3_readEntry_7 ?_
  refine g_icmp_ne hX 17 dX3_readEntry_10 (by decide) (fun hc => ?_) (fun hc => ?_)
  · have h := xif_f hc h
    refine g_iconst (v := (0 : Int32)) hX dX3_readEntry_17 (by decide) ?_
    exact sf3_readEntry_J18 hX hM hR hV h
  · have h := xif_t hc h
    refine g_iconst (v := (1 : Int32)) hX dX3_readEntry_13 (by decide) ?_
    refine g_goto hX 18 dX3_readEntry_14 (by decide) ?_
    exact sf3_readEntry_J18 hX hM hR hV h
set_option maxRecDepth 100000 in
theorem sf3_readAll_J91 {K : xK} {X : xX} {out : xR} {o : Nat} {o1 : Nat} (hX : xOK K X RX3 cX3_readAll 6) (hM : xM K X out none) (hR : xRm X 3 65) (hV : (3, o) ∈ xvl K) (hV1 : (32, o1) ∈ xvl K)  {S : xSt} {i2 : Int32} (h : f3_readAll_J91 o o1  S i2 = some out) : xG K X S 91 [(0, xr K 3 o), (2, .int i2)] [] := by
  unfold f3_readAll_J91 at h
  refine g_aload_n hX dX3_readAll_91 rfl 0 rfl ?_
  refine g_iload_n hX dX3_readAll_92 rfl 1 rfl ?_
  refine g_iconst (v := (2 : Int32)) hX dX3_readAll_93 (by decide) ?_
  obtain ⟨S1, hcS1, h⟩ := xbV_inv h
  refine g_callV hX hR hV (fun l => c3_noteFault (l := l) hX.vc hV hcS1) xc3_26 rfl ⟨by decide, by decide⟩ rfl rfl (Nat.le_of_ble_eq_true rfl) dX3_readAll_94 ?_
  exact g_vret hX hM (Option.some.inj h) dX3_readAll_97
set_option maxRecDepth 100000 in
theorem sf3_readAll_J77 {K : xK} {X : xX} {out : xR} {o : Nat} {o1 : Nat} (hX : xOK K X RX3 cX3_readAll 6) (hM : xM K X out none) (hR : xRm X 3 65) (hV : (3, o) ∈ xvl K) (hV1 : (32, o1) ∈ xvl K)  {S : xSt} {i4 : Int32} (h : f3_readAll_J77 o o1  S i4 = some out) : xG K X S 77 [(0, xr K 3 o), (4, .int i4)] [] := by
  unfold f3_readAll_J77 at h
  refine g_aload_n hX dX3_readAll_77 rfl 0 rfl ?_
  refine g_iload hX dX3_readAll_78 1 rfl ?_
  refine g_iconst (v := (1 : Int32)) hX dX3_readAll_80 (by decide) ?_
  obtain ⟨S1, hcS1, h⟩ := xbV_inv h
  refine g_callV hX hR hV (fun l => c3_noteFault (l := l) hX.vc hV hcS1) xc3_26 rfl ⟨by decide, by decide⟩ rfl rfl (Nat.le_of_ble_eq_true rfl) dX3_readAll_81 ?_
  exact g_vret hX hM (Option.some.inj h) dX3_readAll_84
set_option maxRecDepth 100000 in
theorem sf3_readAll_J85 {K : xK} {X : xX} {out : xR} {o : Nat} {o1 : Nat} (hX : xOK K X RX3 cX3_readAll 6) (hM : xM K X out none) (hR : xRm X 3 65) (hV : (3, o) ∈ xvl K) (hV1 : (32, o1) ∈ xvl K) {k8 : xSt → Int32 → Int32 → Option xR} (hk8 : ∀ (S : xSt) (i2 : Int32) (i4 : Int32), k8 S i2 i4 = some out → xG K X S 8 [(0, xr K 3 o), (1, xr K 32 o1), (2, .int i2), (4, .int i4)] []) {S : xSt} {i2 : Int32} {i4 : Int32} (h : f3_readAll_J85 o o1 k8 S i2 i4 = some out) : xG K X S 85 [(0, xr K 3 o), (1, xr K 32 o1), (2, .int i2), (4, .int i4)] [] := by
  unfold f3_readAll_J85 at h
  refine g_iinc (v := (i4 + (1 : Int32))) (lv2 := [(4, .int (i4 + (1 : Int32))), (0, xr K 3 o), (1, xr K 32 o1), (2, .int i2)]) hX dX3_readAll_85 3 rfl rfl (by decide) rfl ?_
  refine g_goto hX 8 dX3_readAll_88 (by decide) ?_
  exact g_sub [1, 2, 3, 0] (by rfl) (hk8 _ _ _ h)
set_option maxRecDepth 100000 in
theorem sf3_readAll_J27 {K : xK} {X : xX} {out : xR} {o : Nat} {o1 : Nat} (hX : xOK K X RX3 cX3_readAll 6) (hM : xM K X out none) (hR : xRm X 3 65) (hV : (3, o) ∈ xvl K) (hV1 : (32, o1) ∈ xvl K)  {S : xSt} {i2 : Int32} {i4 : Int32} (h : f3_readAll_J27 o o1  S i2 i4 = some out) : xG K X S 27 [(0, xr K 3 o), (2, .int i2), (4, .int i4)] [] := by
  unfold f3_readAll_J27 at h
  refine g_iload hX dX3_readAll_27 2 rfl ?_
  refine g_iconst (v := (1 : Int32)) hX dX3_readAll_29 (by decide) ?_
  refine g_iadd hX dX3_readAll_30 ?_
  refine g_iload_n hX dX3_readAll_31 rfl 1 rfl ?_
  refine g_icmp_ge hX 44 dX3_readAll_32 (by decide) (fun hc => ?_) (fun hc => ?_)
  · have h := xif_t hc h
    exact g_vret hX hM (Option.some.inj h) dX3_readAll_44
  · have h := xif_f hc h
    refine g_aload_n hX dX3_readAll_35 rfl 0 rfl ?_
    refine g_iload hX dX3_readAll_36 2 rfl ?_
    refine g_iconst (v := (1 : Int32)) hX dX3_readAll_38 (by decide) ?_
    refine g_iadd hX dX3_readAll_39 ?_
    refine g_iconst (v := (3 : Int32)) hX dX3_readAll_40 (by decide) ?_
    obtain ⟨S1, hcS1, h⟩ := xbV_inv h
    refine g_callV hX hR hV (fun l => c3_noteFault (l := l) hX.vc hV hcS1) xc3_26 rfl ⟨by decide, by decide⟩ rfl rfl (Nat.le_of_ble_eq_true rfl) dX3_readAll_41 ?_
    exact g_vret hX hM (Option.some.inj h) dX3_readAll_44
set_option maxRecDepth 100000 in
theorem sb3_readAll_L8 {K : xK} {X : xX} {out : xR} {o : Nat} {o1 : Nat} (hX : xOK K X RX3 cX3_readAll 6) (hM : xM K X out none) (hR : xRm X 3 65) (hV : (3, o) ∈ xvl K) (hV1 : (32, o1) ∈ xvl K)  {k8 : xSt → Int32 → Int32 → Option xR} (hk8 : ∀ (S : xSt) (i2 : Int32) (i4 : Int32), k8 S i2 i4 = some out → xG K X S 8 [(0, xr K 3 o), (1, xr K 32 o1), (2, .int i2), (4, .int i4)] []) {S : xSt} {i2 : Int32} {i4 : Int32} (h : b3_readAll_L8 o o1  k8 S i2 i4 = some out) : xG K X S 8 [(0, xr K 3 o), (1, xr K 32 o1), (2, .int i2), (4, .int i4)] [] := by
  unfold b3_readAll_L8 at h
  refine g_iload hX dX3_readAll_8 3 rfl ?_
  refine g_iload_n hX dX3_readAll_10 rfl 2 rfl ?_
  refine g_icmp_ge hX 91 dX3_readAll_11 (by decide) (fun hc => ?_) (fun hc => ?_)
  · have h := xif_t hc h
    exact g_sub [0, 2] (by rfl) (sf3_readAll_J91 hX hM hR hV hV1 h)
  · have h := xif_f hc h
    refine g_aload_n hX dX3_readAll_14 rfl 1 rfl ?_
    refine g_iload hX dX3_readAll_15 3 rfl ?_
    obtain ⟨hbj1, h⟩ := xat_inv h
    refine g_iald (n := 281) hX hV1 rfl hbj1 dX3_readAll_17 ?_
    refine g_istore (lv2 := [(5, .int (S 32 o1 (i4).toNatClampNeg)), (0, xr K 3 o), (1, xr K 32 o1), (2, .int i2), (4, .int i4)]) hX dX3_readAll_18 (by decide) rfl ?_
    refine g_iload hX dX3_readAll_20 0 rfl ?_
    refine g_bipush (v := (9 : Int32)) hX dX3_readAll_22 (by decide) ?_
    refine g_icmp_ne hX 45 dX3_readAll_24 (by decide) (fun hc => ?_) (fun hc => ?_)
    · have h := xif_f hc h
      refine g_iload hX dX3_readAll_45 0 rfl ?_
      refine g_bipush (v := (8 : Int32)) hX dX3_readAll_47 (by decide) ?_
      refine g_icmp_ne hX 59 dX3_readAll_49 (by decide) (fun hc => ?_) (fun hc => ?_)
      · have h := xif_f hc h
        refine g_aload_n hX dX3_readAll_59 rfl 1 rfl ?_
        refine g_iload hX dX3_readAll_60 0 rfl ?_
        obtain ⟨S2, r3, hcS2, h⟩ := xbI_inv h
        refine g_callV hX hR hV (fun l => c3_canStand (l := l) hX.vc hV hcS2) xc3_33 rfl ⟨by decide, by decide⟩ rfl rfl (Nat.le_of_ble_eq_true rfl) dX3_readAll_62 ?_
        refine g_if_eq hX 77 dX3_readAll_65 (by decide) (fun hc => ?_) (fun hc => ?_)
        · have h := xif_t hc h
          exact g_sub [1, 4] (by rfl) (sf3_readAll_J77 hX hM hR hV hV1 h)
        · have h := xif_f hc h
          refine g_aload_n hX dX3_readAll_68 rfl 1 rfl ?_
          refine g_iload hX dX3_readAll_69 0 rfl ?_
          obtain ⟨S4, hcS4, h⟩ := xbV_inv h
          refine g_callV hX hR hV (fun l => c3_readEntry (l := l) hX.vc hV hcS4) xc3_37 rfl ⟨by decide, by decide⟩ rfl rfl (Nat.le_of_ble_eq_true rfl) dX3_readAll_71 ?_
          refine g_goto hX 85 dX3_readAll_74 (by decide) ?_
          exact g_sub [1, 2, 3, 4] (by rfl) (sf3_readAll_J85 hX hM hR hV hV1 hk8 h)
      · have h := xif_t hc h
        refine g_aload_n hX dX3_readAll_52 rfl 1 rfl ?_
        obtain ⟨S5, hcS5, h⟩ := xbV_inv h
        refine g_callV hX hR hV (fun l => c3_dropPhrases (l := l) hX.vc hV hcS5) xc3_30 rfl ⟨by decide, by decide⟩ rfl rfl (Nat.le_of_ble_eq_true rfl) dX3_readAll_53 ?_
        refine g_goto hX 85 dX3_readAll_56 (by decide) ?_
        exact g_sub [1, 2, 3, 4] (by rfl) (sf3_readAll_J85 hX hM hR hV hV1 hk8 h)
    · have h := xif_t hc h
      exact g_sub [1, 3, 4] (by rfl) (sf3_readAll_J27 hX hM hR hV hV1 h)
theorem sf3_readAll_L8 {K : xK} {X : xX} {out : xR} {o : Nat} {o1 : Nat} (hX : xOK K X RX3 cX3_readAll 6) (hM : xM K X out none) (hR : xRm X 3 65) (hV : (3, o) ∈ xvl K) (hV1 : (32, o1) ∈ xvl K)  : ∀ (n : Nat) (S : xSt) (i2 : Int32) (i4 : Int32) (h : f3_readAll_L8 o o1  n S i2 i4 = some out), xG K X S 8 [(0, xr K 3 o), (1, xr K 32 o1), (2, .int i2), (4, .int i4)] [] := by
  intro n
  induction n with
  | zero => intro S i2 i4 h; cases h
  | succ n ih => intro S i2 i4 h; exact sb3_readAll_L8 hX hM hR hV hV1  ih h
set_option maxRecDepth 100000 in
theorem c3_readAll {l : Launch} {K : xK} {o : Nat} {o1 : Nat} (hvc : xVC (xvl K)) (hV : (3, o) ∈ xvl K) (hV1 : (32, o1) ∈ xvl K) {S : xSt} {a2 : Int32} {a3 : Int32} {out : xR} (h : f3_readAll S o o1 a2 a3 = some out) : xMet l K yX3_readAll cX3_readAll 6 none 3 65 S [xr K 3 o, xr K 32 o1, .int a2, .int a3] out := by
  refine xMet_of RX3 (by decide +kernel) rfl hvc (Nat.le_of_ble_eq_true rfl) ?_
  intro X hX hM hR
  show xG K X S 0 [(0, xr K 3 o), (1, xr K 32 o1), (2, .int a2), (3, .int a3)] []
  unfold f3_readAll at h
  refine g_aload_n hX dX3_readAll_0 rfl 0 rfl ?_
  refine g_iload_n hX dX3_readAll_1 rfl 3 rfl ?_
  obtain ⟨S1, hcS1, h⟩ := xbV_inv h
  refine g_callV hX hR hV (fun l => c3_begin (l := l) hX.vc hV hcS1) xc3_22 rfl ⟨by decide, by decide⟩ rfl rfl (Nat.le_of_ble_eq_true rfl) dX3_readAll_2 ?_
  refine g_iconst (v := (0 : Int32)) hX dX3_readAll_5 (by decide) ?_
  refine g_istore (lv2 := [(4, .int (0 : Int32)), (0, xr K 3 o), (1, xr K 32 o1), (2, .int a2), (3, .int a3)]) hX dX3_readAll_6 (by decide) rfl ?_
  exact g_sub [1, 2, 3, 0] (by rfl) (sf3_readAll_L8 hX hM hR hV hV1 _ _ _ _ h)
set_option maxRecDepth 100000 in
theorem sf2_charactersIn_J59 {K : xK} {X : xX} {out : xR}  (hX : xOK K X RX2 cX2_charactersIn 5) (hM : xM K X out (some .int)) (hR : xRm X 0 0)   {S : xSt} {i2 : Int64} {i4 : Int32} (h : f2_charactersIn_J59   S i2 i4 = some out) : xG K X S 59 [(2, .long i2), (4, .int i4)] [] := by
  unfold f2_charactersIn_J59 at h
  refine g_lload_n hX dX2_charactersIn_59 rfl 0 rfl ?_
  refine g_lconst (v := (0 : Int64)) hX dX2_charactersIn_60 (by decide) ?_
  refine g_lcmp hX dX2_charactersIn_61 ?_
  refine g_if_ne hX 70 dX2_charactersIn_62 (by decide) (fun hc => ?_) (fun hc => ?_)
  · have h := xif_f hc h
    refine g_iconst (v := (0 : Int32)) hX dX2_charactersIn_70 (by decide) ?_
    exact g_iret hX hM (Option.some.inj h) dX2_charactersIn_71
  · have h := xif_t hc h
    refine g_iload hX dX2_charactersIn_65 1 rfl ?_
    refine g_goto hX 71 dX2_charactersIn_67 (by decide) ?_
    exact g_iret hX hM (Option.some.inj h) dX2_charactersIn_71
set_option maxRecDepth 100000 in
theorem sb2_charactersIn_L5 {K : xK} {X : xX} {out : xR}  (hX : xOK K X RX2 cX2_charactersIn 5) (hM : xM K X out (some .int)) (hR : xRm X 0 0)   {k5 : xSt → Int64 → Int32 → Option xR} (hk5 : ∀ (S : xSt) (i2 : Int64) (i4 : Int32), k5 S i2 i4 = some out → xG K X S 5 [(2, .long i2), (4, .int i4)] []) {S : xSt} {i2 : Int64} {i4 : Int32} (h : b2_charactersIn_L5   k5 S i2 i4 = some out) : xG K X S 5 [(2, .long i2), (4, .int i4)] [] := by
  unfold b2_charactersIn_L5 at h
  refine g_iload hX dX2_charactersIn_5 1 rfl ?_
  refine g_bipush (v := (8 : Int32)) hX dX2_charactersIn_7 (by decide) ?_
  refine g_icmp_ge hX 59 dX2_charactersIn_9 (by decide) (fun hc => ?_) (fun hc => ?_)
  · have h := xif_t hc h
    exact sf2_charactersIn_J59 hX hM hR h
  · have h := xif_f hc h
    refine g_lload_n hX dX2_charactersIn_12 rfl 0 rfl ?_
    refine g_ldc2 (v := (255 : Int64)) hX dX2_charactersIn_13 xk2_24 ?_
    refine g_land hX dX2_charactersIn_16 ?_
    refine g_lconst (v := (0 : Int64)) hX dX2_charactersIn_17 (by decide) ?_
    refine g_lcmp hX dX2_charactersIn_18 ?_
    refine g_if_eq hX 59 dX2_charactersIn_19 (by decide) (fun hc => ?_) (fun hc => ?_)
    · have h := xif_t hc h
      exact sf2_charactersIn_J59 hX hM hR h
    · have h := xif_f hc h
      refine g_lload_n hX dX2_charactersIn_22 rfl 0 rfl ?_
      refine g_ldc2 (v := (255 : Int64)) hX dX2_charactersIn_23 xk2_24 ?_
      refine g_land hX dX2_charactersIn_26 ?_
      refine g_ldc2 (v := (33 : Int64)) hX dX2_charactersIn_27 xk2_26 ?_
      refine g_lcmp hX dX2_charactersIn_30 ?_
      refine g_if_lt hX 46 dX2_charactersIn_31 (by decide) (fun hc => ?_) (fun hc => ?_)
      · have h := xif_t hc h
        refine g_iconst (v := (0 : Int32)) hX dX2_charactersIn_46 (by decide) ?_
        exact g_iret hX hM (Option.some.inj h) dX2_charactersIn_47
      · have h := xif_f hc h
        refine g_lload_n hX dX2_charactersIn_34 rfl 0 rfl ?_
        refine g_ldc2 (v := (255 : Int64)) hX dX2_charactersIn_35 xk2_24 ?_
        refine g_land hX dX2_charactersIn_38 ?_
        refine g_ldc2 (v := (126 : Int64)) hX dX2_charactersIn_39 xk2_28 ?_
        refine g_lcmp hX dX2_charactersIn_42 ?_
        refine g_if_le hX 48 dX2_charactersIn_43 (by decide) (fun hc => ?_) (fun hc => ?_)
        · have h := xif_t hc h
          refine g_lload_n hX dX2_charactersIn_48 rfl 0 rfl ?_
          refine g_bipush (v := (8 : Int32)) hX dX2_charactersIn_49 (by decide) ?_
          refine g_lushr hX dX2_charactersIn_51 ?_
          refine g_lstore_n (lv2 := [(2, .long (i2.toUInt64 >>> ((8 : Int32).toInt64.toUInt64 &&& Int64.toUInt64 63)).toInt64), (4, .int i4)]) hX dX2_charactersIn_52 rfl (by decide) rfl ?_
          refine g_iinc (v := (i4 + (1 : Int32))) (lv2 := [(4, .int (i4 + (1 : Int32))), (2, .long (i2.toUInt64 >>> ((8 : Int32).toInt64.toUInt64 &&& Int64.toUInt64 63)).toInt64)]) hX dX2_charactersIn_53 1 rfl rfl (by decide) rfl ?_
          refine g_goto hX 5 dX2_charactersIn_56 (by decide) ?_
          exact g_sub [1, 0] (by rfl) (hk5 _ _ _ h)
        · have h := xif_f hc h
          refine g_iconst (v := (0 : Int32)) hX dX2_charactersIn_46 (by decide) ?_
          exact g_iret hX hM (Option.some.inj h) dX2_charactersIn_47
theorem sf2_charactersIn_L5 {K : xK} {X : xX} {out : xR}  (hX : xOK K X RX2 cX2_charactersIn 5) (hM : xM K X out (some .int)) (hR : xRm X 0 0)   : ∀ (n : Nat) (S : xSt) (i2 : Int64) (i4 : Int32) (h : f2_charactersIn_L5   n S i2 i4 = some out), xG K X S 5 [(2, .long i2), (4, .int i4)] [] := by
  intro n
  induction n with
  | zero => intro S i2 i4 h; cases h
  | succ n ih => intro S i2 i4 h; exact sb2_charactersIn_L5 hX hM hR   ih h
set_option maxRecDepth 100000 in
theorem c2_charactersIn {l : Launch} {K : xK}  (hvc : xVC (xvl K))  {S : xSt} {a0 : Int64} {out : xR} (h : f2_charactersIn S  a0 = some out) : xMet l K yX2_charactersIn cX2_charactersIn 5 (some .int) 0 0 S [.long a0] out := by
  refine xMet_of RX2 (by decide +kernel) rfl hvc (Nat.le_of_ble_eq_true rfl) ?_
  intro X hX hM hR
  show xG K X S 0 [(0, .long a0)] []
  unfold f2_charactersIn at h
  refine g_lload_n hX dX2_charactersIn_0 rfl 0 rfl ?_
  refine g_lstore_n (lv2 := [(2, .long a0), (0, .long a0)]) hX dX2_charactersIn_1 rfl (by decide) rfl ?_
  refine g_iconst (v := (0 : Int32)) hX dX2_charactersIn_2 (by decide) ?_
  refine g_istore (lv2 := [(4, .int (0 : Int32)), (2, .long a0), (0, .long a0)]) hX dX2_charactersIn_3 (by decide) rfl ?_
  exact g_sub [1, 0] (by rfl) (sf2_charactersIn_L5 hX hM hR _ _ _ _ h)
set_option maxRecDepth 100000 in
theorem sb2_append_L5 {K : xK} {X : xX} {out : xR}  (hX : xOK K X RX2 cX2_append 5) (hM : xM K X out none) (hR : xRm X 0 0) (hV : (2, 0) ∈ xvl K)  {k5 : xSt → Int64 → Int32 → Option xR} (hk5 : ∀ (S : xSt) (i1 : Int64) (i4 : Int32), k5 S i1 i4 = some out → xG K X S 5 [(0, xr K 2 0), (1, .long i1), (4, .int i4)] []) {S : xSt} {i1 : Int64} {i4 : Int32} (h : b2_append_L5   k5 S i1 i4 = some out) : xG K X S 5 [(0, xr K 2 0), (1, .long i1), (4, .int i4)] [] := by
  unfold b2_append_L5 at h
  refine g_iload hX dX2_append_5 2 rfl ?_
  refine g_if_lt hX 56 dX2_append_7 (by decide) (fun hc => ?_) (fun hc => ?_)
  · have h := xif_t hc h
    exact g_vret hX hM (Option.some.inj h) dX2_append_56
  · have h := xif_f hc h
    refine g_aload_n hX dX2_append_10 rfl 0 rfl ?_
    refine g_getI hX hV xf2_30 dX2_append_11 ?_
    refine g_bipush (v := (80 : Int32)) hX dX2_append_14 (by decide) ?_
    refine g_icmp_ge hX 56 dX2_append_16 (by decide) (fun hc => ?_) (fun hc => ?_)
    · have h := xif_t hc h
      exact g_vret hX hM (Option.some.inj h) dX2_append_56
    · have h := xif_f hc h
      refine g_aload_n hX dX2_append_19 rfl 0 rfl ?_
      refine g_getR hX hV (xf2_9 _) dX2_append_20 ?_
      refine g_aload_n hX dX2_append_23 rfl 0 rfl ?_
      refine g_getI hX hV xf2_30 dX2_append_24 ?_
      refine g_lload_n hX dX2_append_27 rfl 1 rfl ?_
      refine g_bipush (v := (8 : Int32)) hX dX2_append_28 (by decide) ?_
      refine g_iload hX dX2_append_30 2 rfl ?_
      refine g_imul hX dX2_append_32 ?_
      refine g_lushr hX dX2_append_33 ?_
      refine g_l2i hX dX2_append_34 ?_
      refine g_sipush (v := (255 : Int32)) hX dX2_append_35 (by decide) ?_
      refine g_iand hX dX2_append_38 ?_
      obtain ⟨hbj1, h⟩ := xat_inv h
      obtain ⟨S2, eS2, h⟩ := xlet_inv h
      refine g_iast (n := 80) hX (xvc_2_0 hX.vc hV) (fun _ => rfl) hbj1 dX2_append_39 eS2 ?_
      refine g_aload_n hX dX2_append_40 rfl 0 rfl ?_
      refine g_dup hX dX2_append_41 rfl ?_
      refine g_getI hX hV xf2_30 dX2_append_42 ?_
      refine g_iconst (v := (1 : Int32)) hX dX2_append_45 (by decide) ?_
      refine g_iadd hX dX2_append_46 ?_
      obtain ⟨S3, eS3, h⟩ := xlet_inv h
      refine g_putI hX hV xf2_30 dX2_append_47 eS3 ?_
      refine g_iinc (v := (i4 + (-1 : Int32))) (lv2 := [(4, .int (i4 + (-1 : Int32))), (0, xr K 2 0), (1, .long i1)]) hX dX2_append_50 2 rfl rfl (by decide) rfl ?_
      refine g_goto hX 5 dX2_append_53 (by decide) ?_
      exact g_sub [1, 2, 0] (by rfl) (hk5 _ _ _ h)
theorem sf2_append_L5 {K : xK} {X : xX} {out : xR}  (hX : xOK K X RX2 cX2_append 5) (hM : xM K X out none) (hR : xRm X 0 0) (hV : (2, 0) ∈ xvl K)  : ∀ (n : Nat) (S : xSt) (i1 : Int64) (i4 : Int32) (h : f2_append_L5   n S i1 i4 = some out), xG K X S 5 [(0, xr K 2 0), (1, .long i1), (4, .int i4)] [] := by
  intro n
  induction n with
  | zero => intro S i1 i4 h; cases h
  | succ n ih => intro S i1 i4 h; exact sb2_append_L5 hX hM hR hV  ih h
set_option maxRecDepth 100000 in
theorem c2_append {l : Launch} {K : xK}  (hvc : xVC (xvl K)) (hV : (2, 0) ∈ xvl K) {S : xSt} {a1 : Int64} {a3 : Int32} {out : xR} (h : f2_append S  a1 a3 = some out) : xMet l K yX2_append cX2_append 5 none 0 0 S [xr K 2 0, .long a1, .int a3] out := by
  refine xMet_of RX2 (by decide +kernel) rfl hvc (Nat.le_of_ble_eq_true rfl) ?_
  intro X hX hM hR
  show xG K X S 0 [(0, xr K 2 0), (1, .long a1), (3, .int a3)] []
  unfold f2_append at h
  refine g_iload_n hX dX2_append_0 rfl 2 rfl ?_
  refine g_iconst (v := (1 : Int32)) hX dX2_append_1 (by decide) ?_
  refine g_isub hX dX2_append_2 ?_
  refine g_istore (lv2 := [(4, .int (a3 - (1 : Int32))), (0, xr K 2 0), (1, .long a1), (3, .int a3)]) hX dX2_append_3 (by decide) rfl ?_
  exact g_sub [1, 2, 0] (by rfl) (sf2_append_L5 hX hM hR hV _ _ _ _ h)
set_option maxRecDepth 100000 in
theorem c2_isDigit {l : Launch} {K : xK}  (hvc : xVC (xvl K))  {S : xSt} {a0 : Int32} {out : xR} (h : f2_isDigit S  a0 = some out) : xMet l K yX2_isDigit cX2_isDigit 1 (some .boolean) 0 0 S [.int a0] out := by
  refine xMet_of RX2 (by decide +kernel) rfl hvc (Nat.le_of_ble_eq_true rfl) ?_
  intro X hX hM hR
  show xG K X S 0 [(0, .int a0)] []
  unfold f2_isDigit at h
  refine g_iload_n hX dX2_isDigit_0 rfl 0 rfl ?_
  refine g_bipush (v := (48 : Int32)) hX dX2_isDigit_1 (by decide) ?_
  refine g_icmp_lt hX 16 dX2_isDigit_3 (by decide) (fun hc => ?_) (fun hc => ?_)
  · have h := xif_t hc h
    refine g_iconst (v := (0 : Int32)) hX dX2_isDigit_16 (by decide) ?_
    obtain ⟨hz, h⟩ := xne_inv h
    exact g_zret hX hM hz (Option.some.inj h) dX2_isDigit_17
  · have h := xif_f hc h
    refine g_iload_n hX dX2_isDigit_6 rfl 0 rfl ?_
    refine g_bipush (v := (57 : Int32)) hX dX2_isDigit_7 (by decide) ?_
    refine g_icmp_gt hX 16 dX2_isDigit_9 (by decide) (fun hc => ?_) (fun hc => ?_)
    · have h := xif_t hc h
      refine g_iconst (v := (0 : Int32)) hX dX2_isDigit_16 (by decide) ?_
      obtain ⟨hz, h⟩ := xne_inv h
      exact g_zret hX hM hz (Option.some.inj h) dX2_isDigit_17
    · have h := xif_f hc h
      refine g_iconst (v := (1 : Int32)) hX dX2_isDigit_12 (by decide) ?_
      refine g_goto hX 17 dX2_isDigit_13 (by decide) ?_
      obtain ⟨hz, h⟩ := xne_inv h
      exact g_zret hX hM hz (Option.some.inj h) dX2_isDigit_17
set_option maxRecDepth 100000 in
theorem c2_isSign {l : Launch} {K : xK}  (hvc : xVC (xvl K))  {S : xSt} {a0 : Int32} {out : xR} (h : f2_isSign S  a0 = some out) : xMet l K yX2_isSign cX2_isSign 1 (some .boolean) 0 0 S [.int a0] out := by
  refine xMet_of RX2 (by decide +kernel) rfl hvc (Nat.le_of_ble_eq_true rfl) ?_
  intro X hX hM hR
  show xG K X S 0 [(0, .int a0)] []
  unfold f2_isSign at h
  refine g_iload_n hX dX2_isSign_0 rfl 0 rfl ?_
  refine g_bipush (v := (97 : Int32)) hX dX2_isSign_1 (by decide) ?_
  refine g_icmp_lt hX 16 dX2_isSign_3 (by decide) (fun hc => ?_) (fun hc => ?_)
  · have h := xif_t hc h
    refine g_iconst (v := (0 : Int32)) hX dX2_isSign_16 (by decide) ?_
    obtain ⟨hz, h⟩ := xne_inv h
    exact g_zret hX hM hz (Option.some.inj h) dX2_isSign_17
  · have h := xif_f hc h
    refine g_iload_n hX dX2_isSign_6 rfl 0 rfl ?_
    refine g_bipush (v := (105 : Int32)) hX dX2_isSign_7 (by decide) ?_
    refine g_icmp_ge hX 16 dX2_isSign_9 (by decide) (fun hc => ?_) (fun hc => ?_)
    · have h := xif_t hc h
      refine g_iconst (v := (0 : Int32)) hX dX2_isSign_16 (by decide) ?_
      obtain ⟨hz, h⟩ := xne_inv h
      exact g_zret hX hM hz (Option.some.inj h) dX2_isSign_17
    · have h := xif_f hc h
      refine g_iconst (v := (1 : Int32)) hX dX2_isSign_12 (by decide) ?_
      refine g_goto hX 17 dX2_isSign_13 (by decide) ?_
      obtain ⟨hz, h⟩ := xne_inv h
      exact g_zret hX hM hz (Option.some.inj h) dX2_isSign_17
set_option maxRecDepth 100000 in
theorem sf2_findFault_J161 {K : xK} {X : xX} {out : xR}  (hX : xOK K X RX2 cX2_findFault 6) (hM : xM K X out (some .int)) (hR : xRm X 1 20) (hV : (2, 0) ∈ xvl K)  {S : xSt}  (h : f2_findFault_J161   S  = some out) : xG K X S 161 [(0, xr K 2 0)] [] := by
  unfold f2_findFault_J161 at h
  refine g_aload_n hX dX2_findFault_161 rfl 0 rfl ?_
  refine g_getI hX hV xf2_30 dX2_findFault_162 ?_
  refine g_goto hX 170 dX2_findFault_165 (by decide) ?_
  exact g_iret hX hM (Option.some.inj h) dX2_findFault_170
set_option maxRecDepth 100000 in
theorem sf2_findFault_J149 {K : xK} {X : xX} {out : xR}  (hX : xOK K X RX2 cX2_findFault 6) (hM : xM K X out (some .int)) (hR : xRm X 1 20) (hV : (2, 0) ∈ xvl K)  {S : xSt} {i1 : Int32} {i2 : Int32} {i3 : Int32} (h : f2_findFault_J149   S i1 i2 i3 = some out) : xG K X S 149 [(0, xr K 2 0), (1, .int i1), (2, .int i2), (3, .int i3)] [] := by
  unfold f2_findFault_J149 at h
  refine g_iload_n hX dX2_findFault_149 rfl 2 rfl ?_
  refine g_if_ne hX 161 dX2_findFault_150 (by decide) (fun hc => ?_) (fun hc => ?_)
  · have h := xif_f hc h
    exact g_sub [0] (by rfl) (sf2_findFault_J161 hX hM hR hV h)
  · have h := xif_t hc h
    refine g_iload_n hX dX2_findFault_153 rfl 1 rfl ?_
    refine g_if_ne hX 161 dX2_findFault_154 (by decide) (fun hc => ?_) (fun hc => ?_)
    · have h := xif_f hc h
      exact g_sub [0] (by rfl) (sf2_findFault_J161 hX hM hR hV h)
    · have h := xif_t hc h
      refine g_iload_n hX dX2_findFault_157 rfl 3 rfl ?_
      refine g_if_ne hX 168 dX2_findFault_158 (by decide) (fun hc => ?_) (fun hc => ?_)
      · have h := xif_f hc h
        refine g_bipush (v := (-6 : Int32)) hX dX2_findFault_168 (by decide) ?_
        exact g_iret hX hM (Option.some.inj h) dX2_findFault_170
      · have h := xif_t hc h
        exact g_sub [0] (by rfl) (sf2_findFault_J161 hX hM hR hV h)
set_option maxRecDepth 100000 in
theorem sf2_findFault_J143 {K : xK} {X : xX} {out : xR}  (hX : xOK K X RX2 cX2_findFault 6) (hM : xM K X out (some .int)) (hR : xRm X 1 20) (hV : (2, 0) ∈ xvl K) {k9 : xSt → Int32 → Int32 → Int32 → Int32 → Option xR} (hk9 : ∀ (S : xSt) (i1 : Int32) (i2 : Int32) (i3 : Int32) (i4 : Int32), k9 S i1 i2 i3 i4 = some out → xG K X S 9 [(0, xr K 2 0), (1, .int i1), (2, .int i2), (3, .int i3), (4, .int i4)] []) {S : xSt} {i1 : Int32} {i2 : Int32} {i3 : Int32} {i4 : Int32} (h : f2_findFault_J143  k9 S i1 i2 i3 i4 = some out) : xG K X S 143 [(0, xr K 2 0), (1, .int i1), (2, .int i2), (3, .int i3), (4, .int i4)] [] := by
  unfold f2_findFault_J143 at h
  refine g_iinc (v := (i4 + (1 : Int32))) (lv2 := [(4, .int (i4 + (1 : Int32))), (0, xr K 2 0), (1, .int i1), (2, .int i2), (3, .int i3)]) hX dX2_findFault_143 4 rfl rfl (by decide) rfl ?_
  refine g_goto hX 9 dX2_findFault_146 (by decide) ?_
  exact g_sub [1, 2, 3, 4, 0] (by rfl) (hk9 _ _ _ _ _ h)
set_option maxRecDepth 100000 in
theorem sb2_findFault_L9 {K : xK} {X : xX} {out : xR}  (hX : xOK K X RX2 cX2_findFault 6) (hM : xM K X out (some .int)) (hR : xRm X 1 20) (hV : (2, 0) ∈ xvl K)  {k9 : xSt → Int32 → Int32 → Int32 → Int32 → Option xR} (hk9 : ∀ (S : xSt) (i1 : Int32) (i2 : Int32) (i3 : Int32) (i4 : Int32), k9 S i1 i2 i3 i4 = some out → xG K X S 9 [(0, xr K 2 0), (1, .int i1), (2, .int i2), (3, .int i3), (4, .int i4)] []) {S : xSt} {i1 : Int32} {i2 : Int32} {i3 : Int32} {i4 : Int32} (h : b2_findFault_L9   k9 S i1 i2 i3 i4 = some out) : xG K X S 9 [(0, xr K 2 0), (1, .int i1), (2, .int i2), (3, .int i3), (4, .int i4)] [] := by
  unfold b2_findFault_L9 at h
  refine g_iload hX dX2_findFault_9 4 rfl ?_
  refine g_aload_n hX dX2_findFault_11 rfl 0 rfl ?_
  refine g_getI hX hV xf2_30 dX2_findFault_12 ?_
  refine g_icmp_ge hX 149 dX2_findFault_15 (by decide) (fun hc => ?_) (fun hc => ?_)
  · have h := xif_t hc h
    exact g_sub [0, 1, 2, 3] (by rfl) (sf2_findFault_J149 hX hM hR hV h)
  · have h := xif_f hc h
    refine g_aload_n hX dX2_findFault_18 rfl 0 rfl ?_
    refine g_getR hX hV (xf2_9 _) dX2_findFault_19 ?_
    refine g_iload hX dX2_findFault_22 4 rfl ?_
    obtain ⟨hbj1, h⟩ := xat_inv h
    refine g_iald (n := 80) hX (xvc_2_0 hX.vc hV) rfl hbj1 dX2_findFault_24 ?_
    refine g_istore (lv2 := [(5, .int (S 15 0 (i4).toNatClampNeg)), (0, xr K 2 0), (1, .int i1), (2, .int i2), (3, .int i3), (4, .int i4)]) hX dX2_findFault_25 (by decide) rfl ?_
    refine g_iload hX dX2_findFault_27 0 rfl ?_
    obtain ⟨S2, r3, hcS2, h⟩ := xbI_inv h
    refine g_callS hX hR (fun l => c2_isDigit (l := l) hX.vc hcS2) xc2_34 rfl ⟨by decide, by decide⟩ rfl rfl (Nat.le_of_ble_eq_true rfl) dX2_findFault_29 ?_
    refine g_if_eq hX 59 dX2_findFault_32 (by decide) (fun hc => ?_) (fun hc => ?_)
    · have h := xif_t hc h
      refine g_iload hX dX2_findFault_59 0 rfl ?_
      obtain ⟨S4, r5, hcS4, h⟩ := xbI_inv h
      refine g_callS hX hR (fun l => c2_isSign (l := l) hX.vc hcS4) xc2_38 rfl ⟨by decide, by decide⟩ rfl rfl (Nat.le_of_ble_eq_true rfl) dX2_findFault_61 ?_
      refine g_if_eq hX 82 dX2_findFault_64 (by decide) (fun hc => ?_) (fun hc => ?_)
      · have h := xif_t hc h
        refine g_iload hX dX2_findFault_82 0 rfl ?_
        refine g_bipush (v := (40 : Int32)) hX dX2_findFault_84 (by decide) ?_
        refine g_icmp_ne hX 112 dX2_findFault_86 (by decide) (fun hc => ?_) (fun hc => ?_)
        · have h := xif_f hc h
          refine g_iload hX dX2_findFault_112 0 rfl ?_
          refine g_bipush (v := (41 : Int32)) hX dX2_findFault_114 (by decide) ?_
          refine g_icmp_ne hX 140 dX2_findFault_116 (by decide) (fun hc => ?_) (fun hc => ?_)
          · have h := xif_f hc h
            refine g_iload hX dX2_findFault_140 5 rfl ?_
            exact g_iret hX hM (Option.some.inj h) dX2_findFault_142
          · have h := xif_t hc h
            refine g_iload_n hX dX2_findFault_119 rfl 3 rfl ?_
            refine g_if_ne hX 131 dX2_findFault_120 (by decide) (fun hc => ?_) (fun hc => ?_)
            · have h := xif_f hc h
              refine g_iload hX dX2_findFault_131 5 rfl ?_
              exact g_iret hX hM (Option.some.inj h) dX2_findFault_133
            · have h := xif_t hc h
              refine g_iload_n hX dX2_findFault_123 rfl 2 rfl ?_
              refine g_if_eq hX 131 dX2_findFault_124 (by decide) (fun hc => ?_) (fun hc => ?_)
              · have h := xif_t hc h
                refine g_iload hX dX2_findFault_131 5 rfl ?_
                exact g_iret hX hM (Option.some.inj h) dX2_findFault_133
              · have h := xif_f hc h
                refine g_iload_n hX dX2_findFault_127 rfl 4 rfl ?_
                refine g_if_ne hX 134 dX2_findFault_128 (by decide) (fun hc => ?_) (fun hc => ?_)
                · have h := xif_f hc h
                  refine g_iinc (v := (i1 + (-1 : Int32))) (lv2 := [(1, .int (i1 + (-1 : Int32))), (5, .int (S 15 0 (i4).toNatClampNeg)), (0, xr K 2 0), (2, .int i2), (3, .int i3), (4, .int i4)]) hX dX2_findFault_134 2 rfl rfl (by decide) rfl ?_
                  refine g_goto hX 143 dX2_findFault_137 (by decide) ?_
                  exact g_sub [2, 0, 3, 4, 5] (by rfl) (sf2_findFault_J143 hX hM hR hV hk9 h)
                · have h := xif_t hc h
                  refine g_iload hX dX2_findFault_131 5 rfl ?_
                  exact g_iret hX hM (Option.some.inj h) dX2_findFault_133
        · have h := xif_t hc h
          refine g_iload_n hX dX2_findFault_89 rfl 3 rfl ?_
          refine g_iconst (v := (1 : Int32)) hX dX2_findFault_90 (by decide) ?_
          refine g_icmp_eq hX 99 dX2_findFault_91 (by decide) (fun hc => ?_) (fun hc => ?_)
          · have h := xif_t hc h
            refine g_iload hX dX2_findFault_99 5 rfl ?_
            exact g_iret hX hM (Option.some.inj h) dX2_findFault_101
          · have h := xif_f hc h
            refine g_iload_n hX dX2_findFault_94 rfl 2 rfl ?_
            refine g_iconst (v := (3 : Int32)) hX dX2_findFault_95 (by decide) ?_
            refine g_icmp_ne hX 102 dX2_findFault_96 (by decide) (fun hc => ?_) (fun hc => ?_)
            · have h := xif_f hc h
              refine g_iinc (v := (i1 + (1 : Int32))) (lv2 := [(1, .int (i1 + (1 : Int32))), (5, .int (S 15 0 (i4).toNatClampNeg)), (0, xr K 2 0), (2, .int i2), (3, .int i3), (4, .int i4)]) hX dX2_findFault_102 2 rfl rfl (by decide) rfl ?_
              refine g_iconst (v := (0 : Int32)) hX dX2_findFault_105 (by decide) ?_
              refine g_istore_n (lv2 := [(2, .int (0 : Int32)), (1, .int (i1 + (1 : Int32))), (5, .int (S 15 0 (i4).toNatClampNeg)), (0, xr K 2 0), (3, .int i3), (4, .int i4)]) hX dX2_findFault_106 rfl (by decide) rfl ?_
              refine g_iconst (v := (0 : Int32)) hX dX2_findFault_107 (by decide) ?_
              refine g_istore_n (lv2 := [(3, .int (0 : Int32)), (2, .int (0 : Int32)), (1, .int (i1 + (1 : Int32))), (5, .int (S 15 0 (i4).toNatClampNeg)), (0, xr K 2 0), (4, .int i4)]) hX dX2_findFault_108 rfl (by decide) rfl ?_
              refine g_goto hX 143 dX2_findFault_109 (by decide) ?_
              exact g_sub [4, 2, 1, 0, 5] (by rfl) (sf2_findFault_J143 hX hM hR hV hk9 h)
            · have h := xif_t hc h
              refine g_iload hX dX2_findFault_99 5 rfl ?_
              exact g_iret hX hM (Option.some.inj h) dX2_findFault_101
      · have h := xif_f hc h
        refine g_iload_n hX dX2_findFault_67 rfl 3 rfl ?_
        refine g_iconst (v := (1 : Int32)) hX dX2_findFault_68 (by decide) ?_
        refine g_icmp_ne hX 75 dX2_findFault_69 (by decide) (fun hc => ?_) (fun hc => ?_)
        · have h := xif_f hc h
          refine g_iconst (v := (0 : Int32)) hX dX2_findFault_75 (by decide) ?_
          refine g_istore_n (lv2 := [(2, .int (0 : Int32)), (5, .int (S 15 0 (i4).toNatClampNeg)), (0, xr K 2 0), (1, .int i1), (3, .int i3), (4, .int i4)]) hX dX2_findFault_76 rfl (by decide) rfl ?_
          refine g_iconst (v := (1 : Int32)) hX dX2_findFault_77 (by decide) ?_
          refine g_istore_n (lv2 := [(3, .int (1 : Int32)), (2, .int (0 : Int32)), (5, .int (S 15 0 (i4).toNatClampNeg)), (0, xr K 2 0), (1, .int i1), (4, .int i4)]) hX dX2_findFault_78 rfl (by decide) rfl ?_
          refine g_goto hX 143 dX2_findFault_79 (by decide) ?_
          exact g_sub [3, 4, 1, 0, 5] (by rfl) (sf2_findFault_J143 hX hM hR hV hk9 h)
        · have h := xif_t hc h
          refine g_iload hX dX2_findFault_72 5 rfl ?_
          exact g_iret hX hM (Option.some.inj h) dX2_findFault_74
    · have h := xif_f hc h
      refine g_iload_n hX dX2_findFault_35 rfl 3 rfl ?_
      refine g_bipush (v := (10 : Int32)) hX dX2_findFault_36 (by decide) ?_
      refine g_imul hX dX2_findFault_38 ?_
      refine g_iload hX dX2_findFault_39 0 rfl ?_
      refine g_iadd hX dX2_findFault_41 ?_
      refine g_bipush (v := (48 : Int32)) hX dX2_findFault_42 (by decide) ?_
      refine g_isub hX dX2_findFault_44 ?_
      refine g_istore_n (lv2 := [(2, .int (((i2 * (10 : Int32)) + (S 15 0 (i4).toNatClampNeg)) - (48 : Int32))), (5, .int (S 15 0 (i4).toNatClampNeg)), (0, xr K 2 0), (1, .int i1), (3, .int i3), (4, .int i4)]) hX dX2_findFault_45 rfl (by decide) rfl ?_
      refine g_iload_n hX dX2_findFault_46 rfl 0 rfl ?_
      refine g_if_eq hX 56 dX2_findFault_47 (by decide) (fun hc => ?_) (fun hc => ?_)
      · have h := xif_t hc h
        refine g_iload hX dX2_findFault_56 5 rfl ?_
        exact g_iret hX hM (Option.some.inj h) dX2_findFault_58
      · have h := xif_f hc h
        refine g_iload_n hX dX2_findFault_50 rfl 0 rfl ?_
        refine g_bipush (v := (60 : Int32)) hX dX2_findFault_51 (by decide) ?_
        refine g_icmp_le hX 143 dX2_findFault_53 (by decide) (fun hc => ?_) (fun hc => ?_)
        · have h := xif_t hc h
          exact g_sub [2, 3, 0, 4, 5] (by rfl) (sf2_findFault_J143 hX hM hR hV hk9 h)
        · have h := xif_f hc h
          refine g_iload hX dX2_findFault_56 5 rfl ?_
          exact g_iret hX hM (Option.some.inj h) dX2_findFault_58
theorem sf2_findFault_L9 {K : xK} {X : xX} {out : xR}  (hX : xOK K X RX2 cX2_findFault 6) (hM : xM K X out (some .int)) (hR : xRm X 1 20) (hV : (2, 0) ∈ xvl K)  : ∀ (n : Nat) (S : xSt) (i1 : Int32) (i2 : Int32) (i3 : Int32) (i4 : Int32) (h : f2_findFault_L9   n S i1 i2 i3 i4 = some out), xG K X S 9 [(0, xr K 2 0), (1, .int i1), (2, .int i2), (3, .int i3), (4, .int i4)] [] := by
  intro n
  induction n with
  | zero => intro S i1 i2 i3 i4 h; cases h
  | succ n ih => intro S i1 i2 i3 i4 h; exact sb2_findFault_L9 hX hM hR hV  ih h
set_option maxRecDepth 100000 in
theorem c2_findFault {l : Launch} {K : xK}  (hvc : xVC (xvl K)) (hV : (2, 0) ∈ xvl K) {S : xSt}  {out : xR} (h : f2_findFault S   = some out) : xMet l K yX2_findFault cX2_findFault 6 (some .int) 1 20 S [xr K 2 0] out := by
  refine xMet_of RX2 (by decide +kernel) rfl hvc (Nat.le_of_ble_eq_true rfl) ?_
  intro X hX hM hR
  show xG K X S 0 [(0, xr K 2 0)] []
  unfold f2_findFault at h
  refine g_iconst (v := (0 : Int32)) hX dX2_findFault_0 (by decide) ?_
  refine g_istore_n (lv2 := [(1, .int (0 : Int32)), (0, xr K 2 0)]) hX dX2_findFault_1 rfl (by decide) rfl ?_
  refine g_iconst (v := (0 : Int32)) hX dX2_findFault_2 (by decide) ?_
  refine g_istore_n (lv2 := [(2, .int (0 : Int32)), (1, .int (0 : Int32)), (0, xr K 2 0)]) hX dX2_findFault_3 rfl (by decide) rfl ?_
  refine g_iconst (v := (0 : Int32)) hX dX2_findFault_4 (by decide) ?_
  refine g_istore_n (lv2 := [(3, .int (0 : Int32)), (2, .int (0 : Int32)), (1, .int (0 : Int32)), (0, xr K 2 0)]) hX dX2_findFault_5 rfl (by decide) rfl ?_
  refine g_iconst (v := (0 : Int32)) hX dX2_findFault_6 (by decide) ?_
  refine g_istore (lv2 := [(4, .int (0 : Int32)), (3, .int (0 : Int32)), (2, .int (0 : Int32)), (1, .int (0 : Int32)), (0, xr K 2 0)]) hX dX2_findFault_7 (by decide) rfl ?_
  exact g_sub [4, 3, 2, 1, 0] (by rfl) (sf2_findFault_L9 hX hM hR hV _ _ _ _ _ _ h)
set_option maxRecDepth 100000 in
theorem c2_spellSign {l : Launch} {K : xK}  (hvc : xVC (xvl K)) (hV : (2, 0) ∈ xvl K) {S : xSt} {a1 : Int32} {a2 : Int32} {a3 : Int32} {out : xR} (h : f2_spellSign S  a1 a2 a3 = some out) : xMet l K yX2_spellSign cX2_spellSign 4 (some .int) 2 46 S [xr K 2 0, .int a1, .int a2, .int a3] out := by
  refine xMet_of RX2 (by decide +kernel) rfl hvc (Nat.le_of_ble_eq_true rfl) ?_
  intro X hX hM hR
  show xG K X S 0 [(0, xr K 2 0), (1, .int a1), (2, .int a2), (3, .int a3)] []
  unfold f2_spellSign at h
  refine g_iload_n hX dX2_spellSign_0 rfl 1 rfl ?_
  refine g_iload_n hX dX2_spellSign_1 rfl 3 rfl ?_
  refine g_iadd hX dX2_spellSign_2 ?_
  refine g_sipush (v := (240 : Int32)) hX dX2_spellSign_3 (by decide) ?_
  refine g_icmp_le hX 13 dX2_spellSign_6 (by decide) (fun hc => ?_) (fun hc => ?_)
  · have h := xif_t hc h
    refine g_aload_n hX dX2_spellSign_13 rfl 0 rfl ?_
    refine g_getR hX hV (xf2_15 _) dX2_spellSign_14 ?_
    refine g_iload_n hX dX2_spellSign_17 rfl 1 rfl ?_
    refine g_iload_n hX dX2_spellSign_18 rfl 1 rfl ?_
    refine g_iload_n hX dX2_spellSign_19 rfl 3 rfl ?_
    refine g_iadd hX dX2_spellSign_20 ?_
    refine g_iload_n hX dX2_spellSign_21 rfl 2 rfl ?_
    obtain ⟨S1, hcS1, h⟩ := xbV_inv h
    refine g_callS hX hR (fun l => cfill4 (l := l) hX.vc (xvc_2_1 hX.vc hV) (fun _ => rfl) hcS1) xc2_54 rfl ⟨by decide, by decide⟩ rfl rfl (Nat.le_of_ble_eq_true rfl) dX2_spellSign_22 ?_
    refine g_iload_n hX dX2_spellSign_25 rfl 1 rfl ?_
    refine g_iload_n hX dX2_spellSign_26 rfl 3 rfl ?_
    refine g_iadd hX dX2_spellSign_27 ?_
    exact g_iret hX hM (Option.some.inj h) dX2_spellSign_28
  · have h := xif_f hc h
    refine g_sipush (v := (241 : Int32)) hX dX2_spellSign_9 (by decide) ?_
    exact g_iret hX hM (Option.some.inj h) dX2_spellSign_12
set_option maxRecDepth 100000 in
theorem sb2_repeat_L24 {K : xK} {X : xX} {out : xR}  (hX : xOK K X RX2 cX2_repeat 6) (hM : xM K X out (some .int)) (hR : xRm X 0 0) (hV : (2, 0) ∈ xvl K)  {k24 : xSt → Int32 → Int32 → Int32 → Int32 → Option xR} (hk24 : ∀ (S : xSt) (i1 : Int32) (i2 : Int32) (i4 : Int32) (i5 : Int32), k24 S i1 i2 i4 i5 = some out → xG K X S 24 [(0, xr K 2 0), (1, .int i1), (2, .int i2), (4, .int i4), (5, .int i5)] []) {S : xSt} {i1 : Int32} {i2 : Int32} {i4 : Int32} {i5 : Int32} (h : b2_repeat_L24   k24 S i1 i2 i4 i5 = some out) : xG K X S 24 [(0, xr K 2 0), (1, .int i1), (2, .int i2), (4, .int i4), (5, .int i5)] [] := by
  unfold b2_repeat_L24 at h
  refine g_iload hX dX2_repeat_24 4 rfl ?_
  refine g_iload hX dX2_repeat_26 3 rfl ?_
  refine g_icmp_ge hX 55 dX2_repeat_28 (by decide) (fun hc => ?_) (fun hc => ?_)
  · have h := xif_t hc h
    refine g_iload hX dX2_repeat_55 3 rfl ?_
    exact g_iret hX hM (Option.some.inj h) dX2_repeat_57
  · have h := xif_f hc h
    refine g_aload_n hX dX2_repeat_31 rfl 0 rfl ?_
    refine g_getR hX hV (xf2_15 _) dX2_repeat_32 ?_
    refine g_iload hX dX2_repeat_35 4 rfl ?_
    refine g_aload_n hX dX2_repeat_37 rfl 0 rfl ?_
    refine g_getR hX hV (xf2_15 _) dX2_repeat_38 ?_
    refine g_iload hX dX2_repeat_41 4 rfl ?_
    refine g_iload_n hX dX2_repeat_43 rfl 2 rfl ?_
    refine g_iload_n hX dX2_repeat_44 rfl 1 rfl ?_
    refine g_isub hX dX2_repeat_45 ?_
    refine g_isub hX dX2_repeat_46 ?_
    obtain ⟨hbj1, h⟩ := xat_inv h
    refine g_iald (n := 240) hX (xvc_2_1 hX.vc hV) rfl hbj1 dX2_repeat_47 ?_
    obtain ⟨hbj2, h⟩ := xat_inv h
    obtain ⟨S3, eS3, h⟩ := xlet_inv h
    refine g_iast (n := 240) hX (xvc_2_1 hX.vc hV) (fun _ => rfl) hbj2 dX2_repeat_48 eS3 ?_
    refine g_iinc (v := (i5 + (1 : Int32))) (lv2 := [(5, .int (i5 + (1 : Int32))), (0, xr K 2 0), (1, .int i1), (2, .int i2), (4, .int i4)]) hX dX2_repeat_49 4 rfl rfl (by decide) rfl ?_
    refine g_goto hX 24 dX2_repeat_52 (by decide) ?_
    exact g_sub [1, 2, 3, 4, 0] (by rfl) (hk24 _ _ _ _ _ h)
theorem sf2_repeat_L24 {K : xK} {X : xX} {out : xR}  (hX : xOK K X RX2 cX2_repeat 6) (hM : xM K X out (some .int)) (hR : xRm X 0 0) (hV : (2, 0) ∈ xvl K)  : ∀ (n : Nat) (S : xSt) (i1 : Int32) (i2 : Int32) (i4 : Int32) (i5 : Int32) (h : f2_repeat_L24   n S i1 i2 i4 i5 = some out), xG K X S 24 [(0, xr K 2 0), (1, .int i1), (2, .int i2), (4, .int i4), (5, .int i5)] [] := by
  intro n
  induction n with
  | zero => intro S i1 i2 i4 i5 h; cases h
  | succ n ih => intro S i1 i2 i4 i5 h; exact sb2_repeat_L24 hX hM hR hV  ih h
set_option maxRecDepth 100000 in
theorem c2_repeat {l : Launch} {K : xK}  (hvc : xVC (xvl K)) (hV : (2, 0) ∈ xvl K) {S : xSt} {a1 : Int32} {a2 : Int32} {a3 : Int32} {out : xR} (h : f2_repeat S  a1 a2 a3 = some out) : xMet l K yX2_repeat cX2_repeat 6 (some .int) 0 0 S [xr K 2 0, .int a1, .int a2, .int a3] out := by
  refine xMet_of RX2 (by decide +kernel) rfl hvc (Nat.le_of_ble_eq_true rfl) ?_
  intro X hX hM hR
  show xG K X S 0 [(0, xr K 2 0), (1, .int a1), (2, .int a2), (3, .int a3)] []
  unfold f2_repeat at h
  refine g_iload_n hX dX2_repeat_0 rfl 1 rfl ?_
  refine g_iload_n hX dX2_repeat_1 rfl 2 rfl ?_
  refine g_iload_n hX dX2_repeat_2 rfl 1 rfl ?_
  refine g_isub hX dX2_repeat_3 ?_
  refine g_iload_n hX dX2_repeat_4 rfl 3 rfl ?_
  refine g_imul hX dX2_repeat_5 ?_
  refine g_iadd hX dX2_repeat_6 ?_
  refine g_istore (lv2 := [(4, .int (a1 + ((a2 - a1) * a3))), (0, xr K 2 0), (1, .int a1), (2, .int a2), (3, .int a3)]) hX dX2_repeat_7 (by decide) rfl ?_
  refine g_iload hX dX2_repeat_9 0 rfl ?_
  refine g_sipush (v := (240 : Int32)) hX dX2_repeat_11 (by decide) ?_
  refine g_icmp_le hX 21 dX2_repeat_14 (by decide) (fun hc => ?_) (fun hc => ?_)
  · have h := xif_t hc h
    refine g_iload_n hX dX2_repeat_21 rfl 3 rfl ?_
    refine g_istore (lv2 := [(5, .int a2), (4, .int (a1 + ((a2 - a1) * a3))), (0, xr K 2 0), (1, .int a1), (2, .int a2), (3, .int a3)]) hX dX2_repeat_22 (by decide) rfl ?_
    exact g_sub [2, 3, 4, 1, 0] (by rfl) (sf2_repeat_L24 hX hM hR hV _ _ _ _ _ _ h)
  · have h := xif_f hc h
    refine g_sipush (v := (241 : Int32)) hX dX2_repeat_17 (by decide) ?_
    exact g_iret hX hM (Option.some.inj h) dX2_repeat_20
set_option maxRecDepth 100000 in
theorem sf2_spell_J147 {K : xK} {X : xX} {out : xR}  (hX : xOK K X RX2 cX2_spell 6) (hM : xM K X out (some .int)) (hR : xRm X 3 69) (hV : (2, 0) ∈ xvl K) {k9 : xSt → Int32 → Int32 → Int32 → Int32 → Option xR} (hk9 : ∀ (S : xSt) (i1 : Int32) (i2 : Int32) (i3 : Int32) (i4 : Int32), k9 S i1 i2 i3 i4 = some out → xG K X S 9 [(0, xr K 2 0), (1, .int i1), (2, .int i2), (3, .int i3), (4, .int i4)] []) {S : xSt} {i1 : Int32} {i2 : Int32} {i3 : Int32} {i4 : Int32} (h : f2_spell_J147  k9 S i1 i2 i3 i4 = some out) : xG K X S 147 [(0, xr K 2 0), (1, .int i1), (2, .int i2), (3, .int i3), (4, .int i4)] [] := by
  unfold f2_spell_J147 at h
  refine g_iinc (v := (i4 + (1 : Int32))) (lv2 := [(4, .int (i4 + (1 : Int32))), (0, xr K 2 0), (1, .int i1), (2, .int i2), (3, .int i3)]) hX dX2_spell_147 4 rfl rfl (by decide) rfl ?_
  refine g_goto hX 9 dX2_spell_150 (by decide) ?_
  exact g_sub [1, 2, 3, 4, 0] (by rfl) (hk9 _ _ _ _ _ h)
set_option maxRecDepth 100000 in
theorem sf2_spell_J129 {K : xK} {X : xX} {out : xR}  (hX : xOK K X RX2 cX2_spell 6) (hM : xM K X out (some .int)) (hR : xRm X 3 69) (hV : (2, 0) ∈ xvl K) {k9 : xSt → Int32 → Int32 → Int32 → Int32 → Option xR} (hk9 : ∀ (S : xSt) (i1 : Int32) (i2 : Int32) (i3 : Int32) (i4 : Int32), k9 S i1 i2 i3 i4 = some out → xG K X S 9 [(0, xr K 2 0), (1, .int i1), (2, .int i2), (3, .int i3), (4, .int i4)] []) {S : xSt} {i1 : Int32} {i2 : Int32} {i3 : Int32} {i4 : Int32} {i5 : Int32} (h : f2_spell_J129  k9 S i1 i2 i3 i4 i5 = some out) : xG K X S 129 [(0, xr K 2 0), (1, .int i1), (2, .int i2), (3, .int i3), (4, .int i4), (5, .int i5)] [] := by
  unfold f2_spell_J129 at h
  refine g_aload_n hX dX2_spell_129 rfl 0 rfl ?_
  refine g_iload_n hX dX2_spell_130 rfl 3 rfl ?_
  refine g_iload hX dX2_spell_131 5 rfl ?_
  refine g_bipush (v := (97 : Int32)) hX dX2_spell_133 (by decide) ?_
  refine g_isub hX dX2_spell_135 ?_
  refine g_iload_n hX dX2_spell_136 rfl 2 rfl ?_
  refine g_iconst (v := (1 : Int32)) hX dX2_spell_137 (by decide) ?_
  refine g_max hX hR (by decide) (Nat.le_of_ble_eq_true rfl) xm2_41 xms_max xmi xmc_max dX2_spell_138 ?_
  obtain ⟨S1, r2, hcS1, h⟩ := xbI_inv h
  refine g_callV hX hR hV (fun l => c2_spellSign (l := l) hX.vc hV hcS1) xc2_51 rfl ⟨by decide, by decide⟩ rfl rfl (Nat.le_of_ble_eq_true rfl) dX2_spell_141 ?_
  refine g_istore_n (lv2 := [(3, .int r2), (0, xr K 2 0), (1, .int i1), (2, .int i2), (4, .int i4), (5, .int i5)]) hX dX2_spell_144 rfl (by decide) rfl ?_
  refine g_iconst (v := (0 : Int32)) hX dX2_spell_145 (by decide) ?_
  refine g_istore_n (lv2 := [(2, .int (0 : Int32)), (3, .int r2), (0, xr K 2 0), (1, .int i1), (4, .int i4), (5, .int i5)]) hX dX2_spell_146 rfl (by decide) rfl ?_
  exact g_sub [2, 3, 0, 1, 4] (by rfl) (sf2_spell_J147 hX hM hR hV hk9 h)
set_option maxRecDepth 100000 in
theorem sf2_spell_J94 {K : xK} {X : xX} {out : xR}  (hX : xOK K X RX2 cX2_spell 6) (hM : xM K X out (some .int)) (hR : xRm X 3 69) (hV : (2, 0) ∈ xvl K) {k9 : xSt → Int32 → Int32 → Int32 → Int32 → Option xR} (hk9 : ∀ (S : xSt) (i1 : Int32) (i2 : Int32) (i3 : Int32) (i4 : Int32), k9 S i1 i2 i3 i4 = some out → xG K X S 9 [(0, xr K 2 0), (1, .int i1), (2, .int i2), (3, .int i3), (4, .int i4)] []) {S : xSt} {i1 : Int32} {i2 : Int32} {i3 : Int32} {i4 : Int32} {i5 : Int32} (h : f2_spell_J94  k9 S i1 i2 i3 i4 i5 = some out) : xG K X S 94 [(0, xr K 2 0), (1, .int i1), (2, .int i2), (3, .int i3), (4, .int i4), (5, .int i5)] [] := by
  unfold f2_spell_J94 at h
  refine g_iload hX dX2_spell_94 5 rfl ?_
  refine g_bipush (v := (41 : Int32)) hX dX2_spell_96 (by decide) ?_
  refine g_icmp_ne hX 129 dX2_spell_98 (by decide) (fun hc => ?_) (fun hc => ?_)
  · have h := xif_f hc h
    exact sf2_spell_J129 hX hM hR hV hk9 h
  · have h := xif_t hc h
    refine g_iload_n hX dX2_spell_101 rfl 1 rfl ?_
    refine g_if_le hX 129 dX2_spell_102 (by decide) (fun hc => ?_) (fun hc => ?_)
    · have h := xif_t hc h
      exact sf2_spell_J129 hX hM hR hV hk9 h
    · have h := xif_f hc h
      refine g_iinc (v := (i1 + (-1 : Int32))) (lv2 := [(1, .int (i1 + (-1 : Int32))), (0, xr K 2 0), (2, .int i2), (3, .int i3), (4, .int i4), (5, .int i5)]) hX dX2_spell_105 1 rfl rfl (by decide) rfl ?_
      refine g_aload_n hX dX2_spell_108 rfl 1 rfl ?_
      refine g_aload_n hX dX2_spell_109 rfl 1 rfl ?_
      refine g_getR hX hV (xf2_18 _) dX2_spell_110 ?_
      refine g_iload_n hX dX2_spell_113 rfl 0 rfl ?_
      obtain ⟨hbj1, h⟩ := xat_inv h
      refine g_iald (n := 3) hX (xvc_2_2 hX.vc hV) rfl hbj1 dX2_spell_114 ?_
      refine g_iload_n hX dX2_spell_115 rfl 3 rfl ?_
      refine g_aload_n hX dX2_spell_116 rfl 1 rfl ?_
      refine g_getR hX hV (xf2_21 _) dX2_spell_117 ?_
      refine g_iload_n hX dX2_spell_120 rfl 0 rfl ?_
      obtain ⟨hbj2, h⟩ := xat_inv h
      refine g_iald (n := 3) hX (xvc_2_3 hX.vc hV) rfl hbj2 dX2_spell_121 ?_
      obtain ⟨S3, r4, hcS3, h⟩ := xbI_inv h
      refine g_callV hX hR hV (fun l => c2_repeat (l := l) hX.vc hV hcS3) xc2_47 rfl ⟨by decide, by decide⟩ rfl rfl (Nat.le_of_ble_eq_true rfl) dX2_spell_122 ?_
      refine g_istore_n (lv2 := [(3, .int r4), (1, .int (i1 + (-1 : Int32))), (0, xr K 2 0), (2, .int i2), (4, .int i4), (5, .int i5)]) hX dX2_spell_125 rfl (by decide) rfl ?_
      refine g_goto hX 147 dX2_spell_126 (by decide) ?_
      exact g_sub [2, 1, 3, 0, 4] (by rfl) (sf2_spell_J147 hX hM hR hV hk9 h)
set_option maxRecDepth 100000 in
theorem sb2_spell_L9 {K : xK} {X : xX} {out : xR}  (hX : xOK K X RX2 cX2_spell 6) (hM : xM K X out (some .int)) (hR : xRm X 3 69) (hV : (2, 0) ∈ xvl K)  {k9 : xSt → Int32 → Int32 → Int32 → Int32 → Option xR} (hk9 : ∀ (S : xSt) (i1 : Int32) (i2 : Int32) (i3 : Int32) (i4 : Int32), k9 S i1 i2 i3 i4 = some out → xG K X S 9 [(0, xr K 2 0), (1, .int i1), (2, .int i2), (3, .int i3), (4, .int i4)] []) {S : xSt} {i1 : Int32} {i2 : Int32} {i3 : Int32} {i4 : Int32} (h : b2_spell_L9   k9 S i1 i2 i3 i4 = some out) : xG K X S 9 [(0, xr K 2 0), (1, .int i1), (2, .int i2), (3, .int i3), (4, .int i4)] [] := by
  unfold b2_spell_L9 at h
  refine g_iload hX dX2_spell_9 4 rfl ?_
  refine g_aload_n hX dX2_spell_11 rfl 0 rfl ?_
  refine g_getI hX hV xf2_30 dX2_spell_12 ?_
  refine g_icmp_ge hX 153 dX2_spell_15 (by decide) (fun hc => ?_) (fun hc => ?_)
  · have h := xif_t hc h
    refine g_iload_n hX dX2_spell_153 rfl 3 rfl ?_
    exact g_iret hX hM (Option.some.inj h) dX2_spell_154
  · have h := xif_f hc h
    refine g_iload_n hX dX2_spell_18 rfl 3 rfl ?_
    refine g_sipush (v := (240 : Int32)) hX dX2_spell_19 (by decide) ?_
    refine g_icmp_gt hX 153 dX2_spell_22 (by decide) (fun hc => ?_) (fun hc => ?_)
    · have h := xif_t hc h
      refine g_iload_n hX dX2_spell_153 rfl 3 rfl ?_
      exact g_iret hX hM (Option.some.inj h) dX2_spell_154
    · have h := xif_f hc h
      refine g_aload_n hX dX2_spell_25 rfl 0 rfl ?_
      refine g_getR hX hV (xf2_9 _) dX2_spell_26 ?_
      refine g_iload hX dX2_spell_29 4 rfl ?_
      obtain ⟨hbj1, h⟩ := xat_inv h
      refine g_iald (n := 80) hX (xvc_2_0 hX.vc hV) rfl hbj1 dX2_spell_31 ?_
      refine g_istore (lv2 := [(5, .int (S 15 0 (i4).toNatClampNeg)), (0, xr K 2 0), (1, .int i1), (2, .int i2), (3, .int i3), (4, .int i4)]) hX dX2_spell_32 (by decide) rfl ?_
      refine g_iload hX dX2_spell_34 0 rfl ?_
      obtain ⟨S2, r3, hcS2, h⟩ := xbI_inv h
      refine g_callS hX hR (fun l => c2_isDigit (l := l) hX.vc hcS2) xc2_34 rfl ⟨by decide, by decide⟩ rfl rfl (Nat.le_of_ble_eq_true rfl) dX2_spell_36 ?_
      refine g_if_eq hX 56 dX2_spell_39 (by decide) (fun hc => ?_) (fun hc => ?_)
      · have h := xif_t hc h
        refine g_iload hX dX2_spell_56 0 rfl ?_
        refine g_bipush (v := (40 : Int32)) hX dX2_spell_58 (by decide) ?_
        refine g_icmp_ne hX 94 dX2_spell_60 (by decide) (fun hc => ?_) (fun hc => ?_)
        · have h := xif_f hc h
          exact g_sub [1, 2, 3, 4, 5, 0] (by rfl) (sf2_spell_J94 hX hM hR hV hk9 h)
        · have h := xif_t hc h
          refine g_iload_n hX dX2_spell_63 rfl 2 rfl ?_
          refine g_iconst (v := (3 : Int32)) hX dX2_spell_64 (by decide) ?_
          refine g_icmp_ge hX 94 dX2_spell_65 (by decide) (fun hc => ?_) (fun hc => ?_)
          · have h := xif_t hc h
            exact g_sub [1, 2, 3, 4, 5, 0] (by rfl) (sf2_spell_J94 hX hM hR hV hk9 h)
          · have h := xif_f hc h
            refine g_aload_n hX dX2_spell_68 rfl 1 rfl ?_
            refine g_getR hX hV (xf2_18 _) dX2_spell_69 ?_
            refine g_iload_n hX dX2_spell_72 rfl 2 rfl ?_
            refine g_iload_n hX dX2_spell_73 rfl 4 rfl ?_
            obtain ⟨hbj4, h⟩ := xat_inv h
            obtain ⟨S5, eS5, h⟩ := xlet_inv h
            refine g_iast (n := 3) hX (xvc_2_2 hX.vc hV) (fun _ => rfl) hbj4 dX2_spell_74 eS5 ?_
            refine g_aload_n hX dX2_spell_75 rfl 1 rfl ?_
            refine g_getR hX hV (xf2_21 _) dX2_spell_76 ?_
            refine g_iload_n hX dX2_spell_79 rfl 2 rfl ?_
            refine g_iload_n hX dX2_spell_80 rfl 3 rfl ?_
            refine g_iconst (v := (1 : Int32)) hX dX2_spell_81 (by decide) ?_
            refine g_max hX hR (by decide) (Nat.le_of_ble_eq_true rfl) xm2_41 xms_max xmi xmc_max dX2_spell_82 ?_
            obtain ⟨hbj6, h⟩ := xat_inv h
            obtain ⟨S7, eS7, h⟩ := xlet_inv h
            refine g_iast (n := 3) hX (xvc_2_3 hX.vc hV) (fun _ => rfl) hbj6 dX2_spell_85 eS7 ?_
            refine g_iinc (v := (i1 + (1 : Int32))) (lv2 := [(1, .int (i1 + (1 : Int32))), (5, .int (S 15 0 (i4).toNatClampNeg)), (0, xr K 2 0), (2, .int i2), (3, .int i3), (4, .int i4)]) hX dX2_spell_86 2 rfl rfl (by decide) rfl ?_
            refine g_iconst (v := (0 : Int32)) hX dX2_spell_89 (by decide) ?_
            refine g_istore_n (lv2 := [(2, .int (0 : Int32)), (1, .int (i1 + (1 : Int32))), (5, .int (S 15 0 (i4).toNatClampNeg)), (0, xr K 2 0), (3, .int i3), (4, .int i4)]) hX dX2_spell_90 rfl (by decide) rfl ?_
            refine g_goto hX 147 dX2_spell_91 (by decide) ?_
            exact g_sub [3, 1, 0, 4, 5] (by rfl) (sf2_spell_J147 hX hM hR hV hk9 h)
      · have h := xif_f hc h
        refine g_iload_n hX dX2_spell_42 rfl 3 rfl ?_
        refine g_bipush (v := (10 : Int32)) hX dX2_spell_43 (by decide) ?_
        refine g_imul hX dX2_spell_45 ?_
        refine g_iload hX dX2_spell_46 0 rfl ?_
        refine g_iadd hX dX2_spell_48 ?_
        refine g_bipush (v := (48 : Int32)) hX dX2_spell_49 (by decide) ?_
        refine g_isub hX dX2_spell_51 ?_
        refine g_istore_n (lv2 := [(2, .int (((i2 * (10 : Int32)) + (S 15 0 (i4).toNatClampNeg)) - (48 : Int32))), (5, .int (S 15 0 (i4).toNatClampNeg)), (0, xr K 2 0), (1, .int i1), (3, .int i3), (4, .int i4)]) hX dX2_spell_52 rfl (by decide) rfl ?_
        refine g_goto hX 147 dX2_spell_53 (by decide) ?_
        exact g_sub [2, 3, 0, 4, 5] (by rfl) (sf2_spell_J147 hX hM hR hV hk9 h)
theorem sf2_spell_L9 {K : xK} {X : xX} {out : xR}  (hX : xOK K X RX2 cX2_spell 6) (hM : xM K X out (some .int)) (hR : xRm X 3 69) (hV : (2, 0) ∈ xvl K)  : ∀ (n : Nat) (S : xSt) (i1 : Int32) (i2 : Int32) (i3 : Int32) (i4 : Int32) (h : f2_spell_L9   n S i1 i2 i3 i4 = some out), xG K X S 9 [(0, xr K 2 0), (1, .int i1), (2, .int i2), (3, .int i3), (4, .int i4)] [] := by
  intro n
  induction n with
  | zero => intro S i1 i2 i3 i4 h; cases h
  | succ n ih => intro S i1 i2 i3 i4 h; exact sb2_spell_L9 hX hM hR hV  ih h
set_option maxRecDepth 100000 in
theorem c2_spell {l : Launch} {K : xK}  (hvc : xVC (xvl K)) (hV : (2, 0) ∈ xvl K) {S : xSt}  {out : xR} (h : f2_spell S   = some out) : xMet l K yX2_spell cX2_spell 6 (some .int) 3 69 S [xr K 2 0] out := by
  refine xMet_of RX2 (by decide +kernel) rfl hvc (Nat.le_of_ble_eq_true rfl) ?_
  intro X hX hM hR
  show xG K X S 0 [(0, xr K 2 0)] []
  unfold f2_spell at h
  refine g_iconst (v := (0 : Int32)) hX dX2_spell_0 (by decide) ?_
  refine g_istore_n (lv2 := [(1, .int (0 : Int32)), (0, xr K 2 0)]) hX dX2_spell_1 rfl (by decide) rfl ?_
  refine g_iconst (v := (0 : Int32)) hX dX2_spell_2 (by decide) ?_
  refine g_istore_n (lv2 := [(2, .int (0 : Int32)), (1, .int (0 : Int32)), (0, xr K 2 0)]) hX dX2_spell_3 rfl (by decide) rfl ?_
  refine g_iconst (v := (0 : Int32)) hX dX2_spell_4 (by decide) ?_
  refine g_istore_n (lv2 := [(3, .int (0 : Int32)), (2, .int (0 : Int32)), (1, .int (0 : Int32)), (0, xr K 2 0)]) hX dX2_spell_5 rfl (by decide) rfl ?_
  refine g_iconst (v := (0 : Int32)) hX dX2_spell_6 (by decide) ?_
  refine g_istore (lv2 := [(4, .int (0 : Int32)), (3, .int (0 : Int32)), (2, .int (0 : Int32)), (1, .int (0 : Int32)), (0, xr K 2 0)]) hX dX2_spell_7 (by decide) rfl ?_
  exact g_sub [4, 3, 2, 1, 0] (by rfl) (sf2_spell_L9 hX hM hR hV _ _ _ _ _ _ h)
set_option maxRecDepth 100000 in
theorem sf3_firstDifference_J41 {K : xK} {X : xX} {out : xR} {o : Nat} {o1 : Nat} (hX : xOK K X RX3 cX3_firstDifference 5) (hM : xM K X out (some .int)) (hR : xRm X 1 13) (hV : (3, o) ∈ xvl K) (hV1 : (23, o1) ∈ xvl K)  {S : xSt} {i2 : Int32} {i3 : Int32} (h : f3_firstDifference_J41 o o1  S i2 i3 = some out) : xG K X S 41 [(0, xr K 3 o), (2, .int i2), (3, .int i3)] [] := by
  unfold f3_firstDifference_J41 at h
  refine g_aload_n hX dX3_firstDifference_41 rfl 0 rfl ?_
  refine g_getI hX hV xf3_44 dX3_firstDifference_42 ?_
  refine g_iload_n hX dX3_firstDifference_45 rfl 1 rfl ?_
  refine g_icmp_ne hX 54 dX3_firstDifference_46 (by decide) (fun hc => ?_) (fun hc => ?_)
  · have h := xif_f hc h
    refine g_iload_n hX dX3_firstDifference_54 rfl 2 rfl ?_
    exact g_iret hX hM (Option.some.inj h) dX3_firstDifference_55
  · have h := xif_t hc h
    refine g_bipush (v := (-6 : Int32)) hX dX3_firstDifference_49 (by decide) ?_
    refine g_goto hX 55 dX3_firstDifference_51 (by decide) ?_
    exact g_iret hX hM (Option.some.inj h) dX3_firstDifference_55
set_option maxRecDepth 100000 in
theorem sb3_firstDifference_L12 {K : xK} {X : xX} {out : xR} {o : Nat} {o1 : Nat} (hX : xOK K X RX3 cX3_firstDifference 5) (hM : xM K X out (some .int)) (hR : xRm X 1 13) (hV : (3, o) ∈ xvl K) (hV1 : (23, o1) ∈ xvl K)  {k12 : xSt → Int32 → Int32 → Int32 → Option xR} (hk12 : ∀ (S : xSt) (i2 : Int32) (i3 : Int32) (i4 : Int32), k12 S i2 i3 i4 = some out → xG K X S 12 [(0, xr K 3 o), (1, xr K 23 o1), (2, .int i2), (3, .int i3), (4, .int i4)] []) {S : xSt} {i2 : Int32} {i3 : Int32} {i4 : Int32} (h : b3_firstDifference_L12 o o1  k12 S i2 i3 i4 = some out) : xG K X S 12 [(0, xr K 3 o), (1, xr K 23 o1), (2, .int i2), (3, .int i3), (4, .int i4)] [] := by
  unfold b3_firstDifference_L12 at h
  refine g_iload hX dX3_firstDifference_12 4 rfl ?_
  refine g_iload_n hX dX3_firstDifference_14 rfl 3 rfl ?_
  refine g_icmp_ge hX 41 dX3_firstDifference_15 (by decide) (fun hc => ?_) (fun hc => ?_)
  · have h := xif_t hc h
    exact g_sub [0, 2, 3] (by rfl) (sf3_firstDifference_J41 hX hM hR hV hV1 h)
  · have h := xif_f hc h
    refine g_aload_n hX dX3_firstDifference_18 rfl 0 rfl ?_
    refine g_getR hX hV (xf3_10 _) dX3_firstDifference_19 ?_
    refine g_iload hX dX3_firstDifference_22 4 rfl ?_
    obtain ⟨hbj1, h⟩ := xat_inv h
    refine g_iald (n := 39621) hX (xvc_3_0 hX.vc hV) rfl hbj1 dX3_firstDifference_24 ?_
    refine g_aload_n hX dX3_firstDifference_25 rfl 1 rfl ?_
    refine g_iload hX dX3_firstDifference_26 4 rfl ?_
    obtain ⟨hbj2, h⟩ := xat_inv h
    refine g_iald (n := 240) hX hV1 rfl hbj2 dX3_firstDifference_28 ?_
    refine g_icmp_eq hX 35 dX3_firstDifference_29 (by decide) (fun hc => ?_) (fun hc => ?_)
    · have h := xif_t hc h
      refine g_iinc (v := (i4 + (1 : Int32))) (lv2 := [(4, .int (i4 + (1 : Int32))), (0, xr K 3 o), (1, xr K 23 o1), (2, .int i2), (3, .int i3)]) hX dX3_firstDifference_35 4 rfl rfl (by decide) rfl ?_
      refine g_goto hX 12 dX3_firstDifference_38 (by decide) ?_
      exact g_sub [1, 2, 3, 4, 0] (by rfl) (hk12 _ _ _ _ h)
    · have h := xif_f hc h
      refine g_iload hX dX3_firstDifference_32 4 rfl ?_
      exact g_iret hX hM (Option.some.inj h) dX3_firstDifference_34
theorem sf3_firstDifference_L12 {K : xK} {X : xX} {out : xR} {o : Nat} {o1 : Nat} (hX : xOK K X RX3 cX3_firstDifference 5) (hM : xM K X out (some .int)) (hR : xRm X 1 13) (hV : (3, o) ∈ xvl K) (hV1 : (23, o1) ∈ xvl K)  : ∀ (n : Nat) (S : xSt) (i2 : Int32) (i3 : Int32) (i4 : Int32) (h : f3_firstDifference_L12 o o1  n S i2 i3 i4 = some out), xG K X S 12 [(0, xr K 3 o), (1, xr K 23 o1), (2, .int i2), (3, .int i3), (4, .int i4)] [] := by
  intro n
  induction n with
  | zero => intro S i2 i3 i4 h; cases h
  | succ n ih => intro S i2 i3 i4 h; exact sb3_firstDifference_L12 hX hM hR hV hV1  ih h
set_option maxRecDepth 100000 in
theorem c3_firstDifference {l : Launch} {K : xK} {o : Nat} {o1 : Nat} (hvc : xVC (xvl K)) (hV : (3, o) ∈ xvl K) (hV1 : (23, o1) ∈ xvl K) {S : xSt} {a2 : Int32} {out : xR} (h : f3_firstDifference S o o1 a2 = some out) : xMet l K yX3_firstDifference cX3_firstDifference 5 (some .int) 1 13 S [xr K 3 o, xr K 23 o1, .int a2] out := by
  refine xMet_of RX3 (by decide +kernel) rfl hvc (Nat.le_of_ble_eq_true rfl) ?_
  intro X hX hM hR
  show xG K X S 0 [(0, xr K 3 o), (1, xr K 23 o1), (2, .int a2)] []
  unfold f3_firstDifference at h
  refine g_aload_n hX dX3_firstDifference_0 rfl 0 rfl ?_
  refine g_getI hX hV xf3_44 dX3_firstDifference_1 ?_
  refine g_iload_n hX dX3_firstDifference_4 rfl 2 rfl ?_
  refine g_min hX hR (by decide) (Nat.le_of_ble_eq_true rfl) xm3_75 xms_min xmi xmc_min dX3_firstDifference_5 ?_
  refine g_istore_n (lv2 := [(3, .int (if a2 < (S 3 o 1) then a2 else (S 3 o 1))), (0, xr K 3 o), (1, xr K 23 o1), (2, .int a2)]) hX dX3_firstDifference_8 rfl (by decide) rfl ?_
  refine g_iconst (v := (0 : Int32)) hX dX3_firstDifference_9 (by decide) ?_
  refine g_istore (lv2 := [(4, .int (0 : Int32)), (3, .int (if a2 < (S 3 o 1) then a2 else (S 3 o 1))), (0, xr K 3 o), (1, xr K 23 o1), (2, .int a2)]) hX dX3_firstDifference_10 (by decide) rfl ?_
  exact g_sub [2, 3, 4, 1, 0] (by rfl) (sf3_firstDifference_L12 hX hM hR hV hV1 _ _ _ _ _ h)
set_option maxRecDepth 100000 in
theorem sf1_takeBack_J31 {K : xK} {X : xX} {out : xR} {o1 : Nat} (hX : xOK K X RX1 cX1_takeBack 2) (hM : xM K X out none) (hR : xRm X 2 39) (hV : (1, 0) ∈ xvl K) (hV1 : (4, o1) ∈ xvl K)  {S : xSt} {k0 : Int32} (h : f1_takeBack_J31 o1  S k0 = some out) : xG K X S 31 [(0, xr K 1 0)] [.int k0, xr K 1 0] := by
  unfold f1_takeBack_J31 at h
  obtain ⟨S1, eS1, h⟩ := xlet_inv h
  refine g_putI hX hV xf1_18 dX1_takeBack_31 eS1 ?_
  refine g_aload_n hX dX1_takeBack_34 rfl 0 rfl ?_
  refine g_dup hX dX1_takeBack_35 rfl ?_
  refine g_getI hX hV xf1_22 dX1_takeBack_36 ?_
  refine g_iconst (v := (1 : Int32)) hX dX1_takeBack_39 (by decide) ?_
  refine g_isub hX dX1_takeBack_40 ?_
  obtain ⟨S2, eS2, h⟩ := xlet_inv h
  refine g_putI hX hV xf1_22 dX1_takeBack_41 eS2 ?_
  exact g_vret hX hM (Option.some.inj h) dX1_takeBack_44
set_option maxRecDepth 100000 in
theorem c1_takeBack {l : Launch} {K : xK} {o1 : Nat} (hvc : xVC (xvl K)) (hV : (1, 0) ∈ xvl K) (hV1 : (4, o1) ∈ xvl K) {S : xSt}  {out : xR} (h : f1_takeBack S o1  = some out) : xMet l K yX1_takeBack cX1_takeBack 2 none 2 39 S [xr K 1 0, xr K 4 o1] out := by
  refine xMet_of RX1 (by decide +kernel) rfl hvc (Nat.le_of_ble_eq_true rfl) ?_
  intro X hX hM hR
  show xG K X S 0 [(0, xr K 1 0), (1, xr K 4 o1)] []
  unfold f1_takeBack at h
  refine g_aload_n hX dX1_takeBack_0 rfl 0 rfl ?_
  refine g_getR hX hV (xf1_11 _) dX1_takeBack_1 ?_
  refine g_aload_n hX dX1_takeBack_4 rfl 0 rfl ?_
  refine g_getI hX hV xf1_18 dX1_takeBack_5 ?_
  obtain ⟨hbj1, h⟩ := xat_inv h
  refine g_aald (b := 1) hX (xvc_1_0 hX.vc hV) rfl hbj1 dX1_takeBack_8 ?_
  refine g_aload_n hX dX1_takeBack_9 rfl 1 rfl ?_
  obtain ⟨S2, hcS2, h⟩ := xbV_inv h
  refine g_callS hX hR (fun l => c6_copyState (l := l) hX.vc (xvc_s14 hX.vc (xvc_1_0 hX.vc hV) (xin_lt hbj1)) hV1 hcS2) xc1_31 rfl ⟨by decide, by decide⟩ rfl rfl (Nat.le_of_ble_eq_true rfl) dX1_takeBack_10 ?_
  refine g_aload_n hX dX1_takeBack_13 rfl 0 rfl ?_
  refine g_aload_n hX dX1_takeBack_14 rfl 0 rfl ?_
  refine g_getI hX hV xf1_18 dX1_takeBack_15 ?_
  refine g_if_gt hX 25 dX1_takeBack_18 (by decide) (fun hc => ?_) (fun hc => ?_)
  · have h := xif_t hc h
    refine g_aload_n hX dX1_takeBack_25 rfl 0 rfl ?_
    refine g_getI hX hV xf1_18 dX1_takeBack_26 ?_
    refine g_iconst (v := (1 : Int32)) hX dX1_takeBack_29 (by decide) ?_
    refine g_isub hX dX1_takeBack_30 ?_
    exact g_sub [0] (by rfl) (sf1_takeBack_J31 hX hM hR hV hV1 h)
  · have h := xif_f hc h
    refine g_iconst (v := (5 : Int32)) hX dX1_takeBack_21 (by decide) ?_
    refine g_goto hX 31 dX1_takeBack_22 (by decide) ?_
    exact g_sub [0] (by rfl) (sf1_takeBack_J31 hX hM hR hV hV1 h)
