set_option maxRecDepth 100000 in
theorem c6_isSetting {l : Launch} {K : xK}  (hvc : xVC (xvl K))  {S : xSt} {a0 : Int32} {a1 : Int32} {out : xR} (h : f6_isSetting S  a0 a1 = some out) : xMet l K yX6_isSetting cX6_isSetting 2 (some .boolean) 0 0 S [.int a0, .int a1] out := by
  refine xMet_of RX6 (by decide +kernel) rfl hvc (Nat.le_of_ble_eq_true rfl) ?_
  intro X hX hM hR
  show xG K X S 0 [(0, .int a0), (1, .int a1)] []
  unfold f6_isSetting at h
  refine g_iload_n hX dX6_isSetting_0 rfl 0 rfl ?_
  refine g_if_lt hX 31 dX6_isSetting_1 (by decide) (fun hc => ?_) (fun hc => ?_)
  · have h := xif_t hc h
    refine g_iconst (v := (0 : Int32)) hX dX6_isSetting_31 (by decide) ?_
    obtain ⟨hz, h⟩ := xne_inv h
    exact g_zret hX hM hz (Option.some.inj h) dX6_isSetting_32
  · have h := xif_f hc h
    refine g_iload_n hX dX6_isSetting_4 rfl 0 rfl ?_
    refine g_iconst (v := (2 : Int32)) hX dX6_isSetting_5 (by decide) ?_
    refine g_icmp_gt hX 31 dX6_isSetting_6 (by decide) (fun hc => ?_) (fun hc => ?_)
    · have h := xif_t hc h
      refine g_iconst (v := (0 : Int32)) hX dX6_isSetting_31 (by decide) ?_
      obtain ⟨hz, h⟩ := xne_inv h
      exact g_zret hX hM hz (Option.some.inj h) dX6_isSetting_32
    · have h := xif_f hc h
      refine g_iload_n hX dX6_isSetting_9 rfl 1 rfl ?_
      refine g_gets (k := 0) hX (by decide) xf6_200 dX6_isSetting_10 ?_
      refine g_iload_n hX dX6_isSetting_13 rfl 0 rfl ?_
      obtain ⟨hbj1, h⟩ := xat_inv h
      refine g_ialdS hX (by decide) hbj1 dX6_isSetting_14 ?_
      refine g_icmp_lt hX 31 dX6_isSetting_15 (by decide) (fun hc => ?_) (fun hc => ?_)
      · have h := xif_t hc h
        refine g_iconst (v := (0 : Int32)) hX dX6_isSetting_31 (by decide) ?_
        obtain ⟨hz, h⟩ := xne_inv h
        exact g_zret hX hM hz (Option.some.inj h) dX6_isSetting_32
      · have h := xif_f hc h
        refine g_iload_n hX dX6_isSetting_18 rfl 1 rfl ?_
        refine g_gets (k := 1) hX (by decide) xf6_203 dX6_isSetting_19 ?_
        refine g_iload_n hX dX6_isSetting_22 rfl 0 rfl ?_
        obtain ⟨hbj2, h⟩ := xat_inv h
        refine g_ialdS hX (by decide) hbj2 dX6_isSetting_23 ?_
        refine g_icmp_gt hX 31 dX6_isSetting_24 (by decide) (fun hc => ?_) (fun hc => ?_)
        · have h := xif_t hc h
          refine g_iconst (v := (0 : Int32)) hX dX6_isSetting_31 (by decide) ?_
          obtain ⟨hz, h⟩ := xne_inv h
          exact g_zret hX hM hz (Option.some.inj h) dX6_isSetting_32
        · have h := xif_f hc h
          refine g_iconst (v := (1 : Int32)) hX dX6_isSetting_27 (by decide) ?_
          refine g_goto hX 32 dX6_isSetting_28 (by decide) ?_
          obtain ⟨hz, h⟩ := xne_inv h
          exact g_zret hX hM hz (Option.some.inj h) dX6_isSetting_32
set_option maxRecDepth 100000 in
theorem sf6_refresh_J92 {K : xK} {X : xX} {out : xR}  (hX : xOK K X RX6 cX6_refresh 2) (hM : xM K X out none) (hR : xRm X 5 118) (hV : (6, 0) ∈ xvl K)  {S : xSt}  (h : f6_refresh_J92   S  = some out) : xG K X S 92 [(0, xr K 6 0)] [] := by
  unfold f6_refresh_J92 at h
  refine g_aload_n hX dX6_refresh_92 rfl 0 rfl ?_
  refine g_getR hX hV xf6_48 dX6_refresh_93 ?_
  refine g_aload_n hX dX6_refresh_96 rfl 0 rfl ?_
  refine g_getR hX hV xf6_52 dX6_refresh_97 ?_
  refine g_aload_n hX dX6_refresh_100 rfl 0 rfl ?_
  refine g_getR hX hV xf6_41 dX6_refresh_101 ?_
  refine g_getI hX (xvc_6_5 hX.vc hV) xf6_142 dX6_refresh_104 ?_
  refine g_aload_n hX dX6_refresh_107 rfl 0 rfl ?_
  refine g_getR hX hV xf6_12 dX6_refresh_108 ?_
  refine g_getR hX (xvc_6_0 hX.vc hV) (xf6_76 _) dX6_refresh_111 ?_
  refine g_iconst (v := (0 : Int32)) hX dX6_refresh_114 (by decide) ?_
  obtain ⟨hbj1, h⟩ := xat_inv h
  refine g_iald (n := 3) hX (xvc_4_0 hX.vc (xvc_6_0 hX.vc hV)) rfl hbj1 dX6_refresh_115 ?_
  obtain ⟨S2, hcS2, h⟩ := xbV_inv h
  refine g_callV hX hR (xvc_6_6 hX.vc hV) (fun l => c3_readAll (l := l) hX.vc (xvc_6_6 hX.vc hV) (xvc_6_7 hX.vc hV) hcS2) xc6_221 rfl ⟨by decide, by decide⟩ rfl rfl (Nat.le_of_ble_eq_true rfl) dX6_refresh_116 ?_
  exact g_vret hX hM (Option.some.inj h) dX6_refresh_119
set_option maxRecDepth 100000 in
theorem sb6_refresh_L50 {K : xK} {X : xX} {out : xR}  (hX : xOK K X RX6 cX6_refresh 2) (hM : xM K X out none) (hR : xRm X 5 118) (hV : (6, 0) ∈ xvl K)  {k50 : xSt → Int32 → Option xR} (hk50 : ∀ (S : xSt) (i1 : Int32), k50 S i1 = some out → xG K X S 50 [(0, xr K 6 0), (1, .int i1)] []) {S : xSt} {i1 : Int32} (h : b6_refresh_L50   k50 S i1 = some out) : xG K X S 50 [(0, xr K 6 0), (1, .int i1)] [] := by
  unfold b6_refresh_L50 at h
  refine g_iload_n hX dX6_refresh_50 rfl 1 rfl ?_
  refine g_aload_n hX dX6_refresh_51 rfl 0 rfl ?_
  refine g_getR hX hV xf6_41 dX6_refresh_52 ?_
  refine g_getI hX (xvc_6_5 hX.vc hV) xf6_142 dX6_refresh_55 ?_
  refine g_icmp_ge hX 92 dX6_refresh_58 (by decide) (fun hc => ?_) (fun hc => ?_)
  · have h := xif_t hc h
    exact g_sub [0] (by rfl) (sf6_refresh_J92 hX hM hR hV h)
  · have h := xif_f hc h
    refine g_aload_n hX dX6_refresh_61 rfl 0 rfl ?_
    refine g_getR hX hV xf6_52 dX6_refresh_62 ?_
    refine g_iload_n hX dX6_refresh_65 rfl 1 rfl ?_
    refine g_aload_n hX dX6_refresh_66 rfl 0 rfl ?_
    refine g_getR hX hV xf6_41 dX6_refresh_67 ?_
    refine g_getR hX (xvc_6_5 hX.vc hV) (xf6_127 _) dX6_refresh_70 ?_
    refine g_iload_n hX dX6_refresh_73 rfl 1 rfl ?_
    obtain ⟨hbj1, h⟩ := xat_inv h
    refine g_iald (n := 281) hX (xvc_5_1 hX.vc (xvc_6_5 hX.vc hV)) rfl hbj1 dX6_refresh_74 ?_
    refine g_aload_n hX dX6_refresh_75 rfl 0 rfl ?_
    refine g_getR hX hV xf6_12 dX6_refresh_76 ?_
    refine g_getR hX (xvc_6_0 hX.vc hV) (xf6_99 _) dX6_refresh_79 ?_
    refine g_iload_n hX dX6_refresh_82 rfl 1 rfl ?_
    obtain ⟨hbj2, h⟩ := xat_inv h
    refine g_iald (n := 281) hX (xvc_4_2 hX.vc (xvc_6_0 hX.vc hV)) rfl hbj2 dX6_refresh_83 ?_
    refine g_ixor hX dX6_refresh_84 ?_
    obtain ⟨hbj3, h⟩ := xat_inv h
    obtain ⟨S4, eS4, h⟩ := xlet_inv h
    refine g_iast (n := 281) hX (xvc_6_7 hX.vc hV) (fun _ => rfl) hbj3 dX6_refresh_85 eS4 ?_
    refine g_iinc (v := (i1 + (1 : Int32))) (lv2 := [(1, .int (i1 + (1 : Int32))), (0, xr K 6 0)]) hX dX6_refresh_86 1 rfl rfl (by decide) rfl ?_
    refine g_goto hX 50 dX6_refresh_89 (by decide) ?_
    exact g_sub [1, 0] (by rfl) (hk50 _ _ h)
theorem sf6_refresh_L50 {K : xK} {X : xX} {out : xR}  (hX : xOK K X RX6 cX6_refresh 2) (hM : xM K X out none) (hR : xRm X 5 118) (hV : (6, 0) ∈ xvl K)  : ∀ (n : Nat) (S : xSt) (i1 : Int32) (h : f6_refresh_L50   n S i1 = some out), xG K X S 50 [(0, xr K 6 0), (1, .int i1)] [] := by
  intro n
  induction n with
  | zero => intro S i1 h; cases h
  | succ n ih => intro S i1 h; exact sb6_refresh_L50 hX hM hR hV  ih h
set_option maxRecDepth 100000 in
theorem c6_refresh {l : Launch} {K : xK}  (hvc : xVC (xvl K)) (hV : (6, 0) ∈ xvl K) {S : xSt}  {out : xR} (h : f6_refresh S   = some out) : xMet l K yX6_refresh cX6_refresh 2 none 5 118 S [xr K 6 0] out := by
  refine xMet_of RX6 (by decide +kernel) rfl hvc (Nat.le_of_ble_eq_true rfl) ?_
  intro X hX hM hR
  show xG K X S 0 [(0, xr K 6 0)] []
  unfold f6_refresh at h
  refine g_aload_n hX dX6_refresh_0 rfl 0 rfl ?_
  refine g_getR hX hV xf6_41 dX6_refresh_1 ?_
  refine g_aload_n hX dX6_refresh_4 rfl 0 rfl ?_
  refine g_getR hX hV xf6_12 dX6_refresh_5 ?_
  refine g_getR hX (xvc_6_0 hX.vc hV) (xf6_86 _) dX6_refresh_8 ?_
  refine g_aload_n hX dX6_refresh_11 rfl 0 rfl ?_
  refine g_getR hX hV xf6_12 dX6_refresh_12 ?_
  refine g_getI hX (xvc_6_0 hX.vc hV) xf6_82 dX6_refresh_15 ?_
  refine g_aload_n hX dX6_refresh_18 rfl 0 rfl ?_
  refine g_getR hX hV xf6_12 dX6_refresh_19 ?_
  refine g_getR hX (xvc_6_0 hX.vc hV) (xf6_76 _) dX6_refresh_22 ?_
  refine g_iconst (v := (0 : Int32)) hX dX6_refresh_25 (by decide) ?_
  obtain ⟨hbj1, h⟩ := xat_inv h
  refine g_iald (n := 3) hX (xvc_4_0 hX.vc (xvc_6_0 hX.vc hV)) rfl hbj1 dX6_refresh_26 ?_
  refine g_aload_n hX dX6_refresh_27 rfl 0 rfl ?_
  refine g_getR hX hV xf6_12 dX6_refresh_28 ?_
  refine g_getR hX (xvc_6_0 hX.vc hV) (xf6_76 _) dX6_refresh_31 ?_
  refine g_iconst (v := (1 : Int32)) hX dX6_refresh_34 (by decide) ?_
  obtain ⟨hbj2, h⟩ := xat_inv h
  refine g_iald (n := 3) hX (xvc_4_0 hX.vc (xvc_6_0 hX.vc hV)) rfl hbj2 dX6_refresh_35 ?_
  refine g_aload_n hX dX6_refresh_36 rfl 0 rfl ?_
  refine g_getR hX hV xf6_12 dX6_refresh_37 ?_
  refine g_getR hX (xvc_6_0 hX.vc hV) (xf6_76 _) dX6_refresh_40 ?_
  refine g_iconst (v := (2 : Int32)) hX dX6_refresh_43 (by decide) ?_
  obtain ⟨hbj3, h⟩ := xat_inv h
  refine g_iald (n := 3) hX (xvc_4_0 hX.vc (xvc_6_0 hX.vc hV)) rfl hbj3 dX6_refresh_44 ?_
  obtain ⟨S4, hcS4, h⟩ := xbV_inv h
  refine g_callV hX hR (xvc_6_5 hX.vc hV) (fun l => c5_writeOut (l := l) hX.vc (xvc_6_5 hX.vc hV) (xvc_4_1 hX.vc (xvc_6_0 hX.vc hV)) hcS4) xc6_217 rfl ⟨by decide, by decide⟩ rfl rfl (Nat.le_of_ble_eq_true rfl) dX6_refresh_45 ?_
  refine g_iconst (v := (0 : Int32)) hX dX6_refresh_48 (by decide) ?_
  refine g_istore_n (lv2 := [(1, .int (0 : Int32)), (0, xr K 6 0)]) hX dX6_refresh_49 rfl (by decide) rfl ?_
  exact g_sub [1, 0] (by rfl) (sf6_refresh_L50 hX hM hR hV _ _ _ h)
set_option maxRecDepth 100000 in
theorem c6_set {l : Launch} {K : xK}  (hvc : xVC (xvl K)) (hV : (6, 0) ∈ xvl K) {S : xSt} {a1 : Int32} {a2 : Int32} {out : xR} (h : f6_set S  a1 a2 = some out) : xMet l K yX6_set cX6_set 4 (some .int) 6 139 S [xr K 6 0, .int a1, .int a2] out := by
  refine xMet_of RX6 (by decide +kernel) rfl hvc (Nat.le_of_ble_eq_true rfl) ?_
  intro X hX hM hR
  show xG K X S 0 [(0, xr K 6 0), (1, .int a1), (2, .int a2)] []
  unfold f6_set at h
  refine g_iload_n hX dX6_set_0 rfl 1 rfl ?_
  refine g_iload_n hX dX6_set_1 rfl 2 rfl ?_
  obtain ⟨S1, r2, hcS1, h⟩ := xbI_inv h
  refine g_callS hX hR (fun l => c6_isSetting (l := l) hX.vc hcS1) xc6_68 rfl ⟨by decide, by decide⟩ rfl rfl (Nat.le_of_ble_eq_true rfl) dX6_set_2 ?_
  refine g_if_ne hX 11 dX6_set_5 (by decide) (fun hc => ?_) (fun hc => ?_)
  · have h := xif_f hc h
    refine g_aload_n hX dX6_set_11 rfl 0 rfl ?_
    refine g_getR hX hV xf6_19 dX6_set_12 ?_
    refine g_aload_n hX dX6_set_15 rfl 0 rfl ?_
    refine g_getR hX hV xf6_12 dX6_set_16 ?_
    obtain ⟨S3, hcS3, h⟩ := xbV_inv h
    refine g_callV hX hR (xvc_6_1 hX.vc hV) (fun l => c1_record (l := l) hX.vc (xvc_6_1 hX.vc hV) (xvc_6_0 hX.vc hV) hcS3) xc6_72 rfl ⟨by decide, by decide⟩ rfl rfl (Nat.le_of_ble_eq_true rfl) dX6_set_19 ?_
    refine g_aload_n hX dX6_set_22 rfl 0 rfl ?_
    refine g_getR hX hV xf6_12 dX6_set_23 ?_
    refine g_getR hX (xvc_6_0 hX.vc hV) (xf6_76 _) dX6_set_26 ?_
    refine g_iload_n hX dX6_set_29 rfl 1 rfl ?_
    obtain ⟨hbj4, h⟩ := xat_inv h
    refine g_iald (n := 3) hX (xvc_4_0 hX.vc (xvc_6_0 hX.vc hV)) rfl hbj4 dX6_set_30 ?_
    refine g_istore_n (lv2 := [(3, .int (S3 22 0 (a1).toNatClampNeg)), (0, xr K 6 0), (1, .int a1), (2, .int a2)]) hX dX6_set_31 rfl (by decide) rfl ?_
    refine g_aload_n hX dX6_set_32 rfl 1 rfl ?_
    refine g_getR hX hV xf6_12 dX6_set_33 ?_
    refine g_getR hX (xvc_6_0 hX.vc hV) (xf6_76 _) dX6_set_36 ?_
    refine g_iload_n hX dX6_set_39 rfl 2 rfl ?_
    refine g_iload_n hX dX6_set_40 rfl 3 rfl ?_
    obtain ⟨hbj5, h⟩ := xat_inv h
    obtain ⟨S6, eS6, h⟩ := xlet_inv h
    refine g_iast (n := 3) hX (xvc_4_0 hX.vc (xvc_6_0 hX.vc hV)) (fun _ => rfl) hbj5 dX6_set_41 eS6 ?_
    refine g_aload_n hX dX6_set_42 rfl 1 rfl ?_
    refine g_getR hX hV xf6_12 dX6_set_43 ?_
    obtain ⟨S7, hcS7, h⟩ := xbV_inv h
    refine g_callV hX hR (xvc_6_0 hX.vc hV) (fun l => c4_mendCodes (l := l) hX.vc (xvc_6_0 hX.vc hV) hcS7) xc6_79 rfl ⟨by decide, by decide⟩ rfl rfl (Nat.le_of_ble_eq_true rfl) dX6_set_46 ?_
    refine g_aload_n hX dX6_set_49 rfl 1 rfl ?_
    obtain ⟨S8, hcS8, h⟩ := xbV_inv h
    refine g_callV hX hR hV (fun l => c6_refresh (l := l) hX.vc hV hcS8) xc6_65 rfl ⟨by decide, by decide⟩ rfl rfl (Nat.le_of_ble_eq_true rfl) dX6_set_50 ?_
    refine g_iload_n hX dX6_set_53 rfl 0 rfl ?_
    exact g_iret hX hM (Option.some.inj h) dX6_set_54
  · have h := xif_t hc h
    refine g_bipush (v := (-2 : Int32)) hX dX6_set_8 (by decide) ?_
    exact g_iret hX hM (Option.some.inj h) dX6_set_10
set_option maxRecDepth 100000 in
theorem c6_add {l : Launch} {K : xK}  (hvc : xVC (xvl K)) (hV : (6, 0) ∈ xvl K) {S : xSt} {a1 : Int32} {a2 : Int32} {out : xR} (h : f6_add S  a1 a2 = some out) : xMet l K yX6_add cX6_add 3 (some .int) 6 139 S [xr K 6 0, .int a1, .int a2] out := by
  refine xMet_of RX6 (by decide +kernel) rfl hvc (Nat.le_of_ble_eq_true rfl) ?_
  intro X hX hM hR
  show xG K X S 0 [(0, xr K 6 0), (1, .int a1), (2, .int a2)] []
  unfold f6_add at h
  refine g_iload_n hX dX6_add_0 rfl 1 rfl ?_
  refine g_if_lt hX 22 dX6_add_1 (by decide) (fun hc => ?_) (fun hc => ?_)
  · have h := xif_t hc h
    refine g_bipush (v := (-2 : Int32)) hX dX6_add_22 (by decide) ?_
    exact g_iret hX hM (Option.some.inj h) dX6_add_24
  · have h := xif_f hc h
    refine g_iload_n hX dX6_add_4 rfl 1 rfl ?_
    refine g_bipush (v := (8 : Int32)) hX dX6_add_5 (by decide) ?_
    refine g_icmp_ge hX 22 dX6_add_7 (by decide) (fun hc => ?_) (fun hc => ?_)
    · have h := xif_t hc h
      refine g_bipush (v := (-2 : Int32)) hX dX6_add_22 (by decide) ?_
      exact g_iret hX hM (Option.some.inj h) dX6_add_24
    · have h := xif_f hc h
      refine g_iload_n hX dX6_add_10 rfl 2 rfl ?_
      refine g_iconst (v := (1 : Int32)) hX dX6_add_11 (by decide) ?_
      refine g_icmp_lt hX 22 dX6_add_12 (by decide) (fun hc => ?_) (fun hc => ?_)
      · have h := xif_t hc h
        refine g_bipush (v := (-2 : Int32)) hX dX6_add_22 (by decide) ?_
        exact g_iret hX hM (Option.some.inj h) dX6_add_24
      · have h := xif_f hc h
        refine g_iload_n hX dX6_add_15 rfl 2 rfl ?_
        refine g_sipush (v := (240 : Int32)) hX dX6_add_16 (by decide) ?_
        refine g_icmp_le hX 25 dX6_add_19 (by decide) (fun hc => ?_) (fun hc => ?_)
        · have h := xif_t hc h
          refine g_aload_n hX dX6_add_25 rfl 0 rfl ?_
          refine g_getR hX hV xf6_12 dX6_add_26 ?_
          refine g_getI hX (xvc_6_0 hX.vc hV) xf6_82 dX6_add_29 ?_
          refine g_iload_n hX dX6_add_32 rfl 2 rfl ?_
          refine g_iadd hX dX6_add_33 ?_
          refine g_sipush (v := (240 : Int32)) hX dX6_add_34 (by decide) ?_
          refine g_icmp_le hX 43 dX6_add_37 (by decide) (fun hc => ?_) (fun hc => ?_)
          · have h := xif_t hc h
            refine g_aload_n hX dX6_add_43 rfl 0 rfl ?_
            refine g_getR hX hV xf6_19 dX6_add_44 ?_
            refine g_aload_n hX dX6_add_47 rfl 0 rfl ?_
            refine g_getR hX hV xf6_12 dX6_add_48 ?_
            obtain ⟨S1, hcS1, h⟩ := xbV_inv h
            refine g_callV hX hR (xvc_6_1 hX.vc hV) (fun l => c1_record (l := l) hX.vc (xvc_6_1 hX.vc hV) (xvc_6_0 hX.vc hV) hcS1) xc6_72 rfl ⟨by decide, by decide⟩ rfl rfl (Nat.le_of_ble_eq_true rfl) dX6_add_51 ?_
            refine g_aload_n hX dX6_add_54 rfl 0 rfl ?_
            refine g_getR hX hV xf6_12 dX6_add_55 ?_
            refine g_getR hX (xvc_6_0 hX.vc hV) (xf6_86 _) dX6_add_58 ?_
            refine g_aload_n hX dX6_add_61 rfl 0 rfl ?_
            refine g_getR hX hV xf6_12 dX6_add_62 ?_
            refine g_getI hX (xvc_6_0 hX.vc hV) xf6_82 dX6_add_65 ?_
            refine g_aload_n hX dX6_add_68 rfl 0 rfl ?_
            refine g_getR hX hV xf6_12 dX6_add_69 ?_
            refine g_getI hX (xvc_6_0 hX.vc hV) xf6_82 dX6_add_72 ?_
            refine g_iload_n hX dX6_add_75 rfl 2 rfl ?_
            refine g_iadd hX dX6_add_76 ?_
            refine g_iload_n hX dX6_add_77 rfl 1 rfl ?_
            obtain ⟨S2, hcS2, h⟩ := xbV_inv h
            refine g_callS hX hR (fun l => cfill4 (l := l) hX.vc (xvc_4_1 hX.vc (xvc_6_0 hX.vc hV)) (fun _ => rfl) hcS2) xc6_89 rfl ⟨by decide, by decide⟩ rfl rfl (Nat.le_of_ble_eq_true rfl) dX6_add_78 ?_
            refine g_aload_n hX dX6_add_81 rfl 0 rfl ?_
            refine g_getR hX hV xf6_12 dX6_add_82 ?_
            refine g_dup hX dX6_add_85 rfl ?_
            refine g_getI hX (xvc_6_0 hX.vc hV) xf6_82 dX6_add_86 ?_
            refine g_iload_n hX dX6_add_89 rfl 2 rfl ?_
            refine g_iadd hX dX6_add_90 ?_
            obtain ⟨S3, eS3, h⟩ := xlet_inv h
            refine g_putI hX (xvc_6_0 hX.vc hV) xf6_82 dX6_add_91 eS3 ?_
            refine g_aload_n hX dX6_add_94 rfl 0 rfl ?_
            refine g_getR hX hV xf6_12 dX6_add_95 ?_
            obtain ⟨S4, hcS4, h⟩ := xbV_inv h
            refine g_callV hX hR (xvc_6_0 hX.vc hV) (fun l => c4_mendCodes (l := l) hX.vc (xvc_6_0 hX.vc hV) hcS4) xc6_79 rfl ⟨by decide, by decide⟩ rfl rfl (Nat.le_of_ble_eq_true rfl) dX6_add_98 ?_
            refine g_aload_n hX dX6_add_101 rfl 0 rfl ?_
            obtain ⟨S5, hcS5, h⟩ := xbV_inv h
            refine g_callV hX hR hV (fun l => c6_refresh (l := l) hX.vc hV hcS5) xc6_65 rfl ⟨by decide, by decide⟩ rfl rfl (Nat.le_of_ble_eq_true rfl) dX6_add_102 ?_
            refine g_aload_n hX dX6_add_105 rfl 0 rfl ?_
            refine g_getR hX hV xf6_12 dX6_add_106 ?_
            refine g_getI hX (xvc_6_0 hX.vc hV) xf6_82 dX6_add_109 ?_
            exact g_iret hX hM (Option.some.inj h) dX6_add_112
          · have h := xif_f hc h
            refine g_bipush (v := (-4 : Int32)) hX dX6_add_40 (by decide) ?_
            exact g_iret hX hM (Option.some.inj h) dX6_add_42
        · have h := xif_f hc h
          refine g_bipush (v := (-2 : Int32)) hX dX6_add_22 (by decide) ?_
          exact g_iret hX hM (Option.some.inj h) dX6_add_24
set_option maxRecDepth 100000 in
theorem c6_cut {l : Launch} {K : xK}  (hvc : xVC (xvl K)) (hV : (6, 0) ∈ xvl K) {S : xSt} {a1 : Int32} {out : xR} (h : f6_cut S  a1 = some out) : xMet l K yX6_cut cX6_cut 2 (some .int) 6 139 S [xr K 6 0, .int a1] out := by
  refine xMet_of RX6 (by decide +kernel) rfl hvc (Nat.le_of_ble_eq_true rfl) ?_
  intro X hX hM hR
  show xG K X S 0 [(0, xr K 6 0), (1, .int a1)] []
  unfold f6_cut at h
  refine g_iload_n hX dX6_cut_0 rfl 1 rfl ?_
  refine g_iconst (v := (1 : Int32)) hX dX6_cut_1 (by decide) ?_
  refine g_icmp_lt hX 12 dX6_cut_2 (by decide) (fun hc => ?_) (fun hc => ?_)
  · have h := xif_t hc h
    refine g_bipush (v := (-2 : Int32)) hX dX6_cut_12 (by decide) ?_
    exact g_iret hX hM (Option.some.inj h) dX6_cut_14
  · have h := xif_f hc h
    refine g_iload_n hX dX6_cut_5 rfl 1 rfl ?_
    refine g_sipush (v := (240 : Int32)) hX dX6_cut_6 (by decide) ?_
    refine g_icmp_le hX 15 dX6_cut_9 (by decide) (fun hc => ?_) (fun hc => ?_)
    · have h := xif_t hc h
      refine g_iload_n hX dX6_cut_15 rfl 1 rfl ?_
      refine g_aload_n hX dX6_cut_16 rfl 0 rfl ?_
      refine g_getR hX hV xf6_12 dX6_cut_17 ?_
      refine g_getI hX (xvc_6_0 hX.vc hV) xf6_82 dX6_cut_20 ?_
      refine g_icmp_le hX 29 dX6_cut_23 (by decide) (fun hc => ?_) (fun hc => ?_)
      · have h := xif_t hc h
        refine g_aload_n hX dX6_cut_29 rfl 0 rfl ?_
        refine g_getR hX hV xf6_19 dX6_cut_30 ?_
        refine g_aload_n hX dX6_cut_33 rfl 0 rfl ?_
        refine g_getR hX hV xf6_12 dX6_cut_34 ?_
        obtain ⟨S1, hcS1, h⟩ := xbV_inv h
        refine g_callV hX hR (xvc_6_1 hX.vc hV) (fun l => c1_record (l := l) hX.vc (xvc_6_1 hX.vc hV) (xvc_6_0 hX.vc hV) hcS1) xc6_72 rfl ⟨by decide, by decide⟩ rfl rfl (Nat.le_of_ble_eq_true rfl) dX6_cut_37 ?_
        refine g_aload_n hX dX6_cut_40 rfl 0 rfl ?_
        refine g_getR hX hV xf6_12 dX6_cut_41 ?_
        refine g_dup hX dX6_cut_44 rfl ?_
        refine g_getI hX (xvc_6_0 hX.vc hV) xf6_82 dX6_cut_45 ?_
        refine g_iload_n hX dX6_cut_48 rfl 1 rfl ?_
        refine g_isub hX dX6_cut_49 ?_
        obtain ⟨S2, eS2, h⟩ := xlet_inv h
        refine g_putI hX (xvc_6_0 hX.vc hV) xf6_82 dX6_cut_50 eS2 ?_
        refine g_aload_n hX dX6_cut_53 rfl 0 rfl ?_
        refine g_getR hX hV xf6_12 dX6_cut_54 ?_
        obtain ⟨S3, hcS3, h⟩ := xbV_inv h
        refine g_callV hX hR (xvc_6_0 hX.vc hV) (fun l => c4_mendCodes (l := l) hX.vc (xvc_6_0 hX.vc hV) hcS3) xc6_79 rfl ⟨by decide, by decide⟩ rfl rfl (Nat.le_of_ble_eq_true rfl) dX6_cut_57 ?_
        refine g_aload_n hX dX6_cut_60 rfl 0 rfl ?_
        obtain ⟨S4, hcS4, h⟩ := xbV_inv h
        refine g_callV hX hR hV (fun l => c6_refresh (l := l) hX.vc hV hcS4) xc6_65 rfl ⟨by decide, by decide⟩ rfl rfl (Nat.le_of_ble_eq_true rfl) dX6_cut_61 ?_
        refine g_aload_n hX dX6_cut_64 rfl 0 rfl ?_
        refine g_getR hX hV xf6_12 dX6_cut_65 ?_
        refine g_getI hX (xvc_6_0 hX.vc hV) xf6_82 dX6_cut_68 ?_
        exact g_iret hX hM (Option.some.inj h) dX6_cut_71
      · have h := xif_f hc h
        refine g_bipush (v := (-5 : Int32)) hX dX6_cut_26 (by decide) ?_
        exact g_iret hX hM (Option.some.inj h) dX6_cut_28
    · have h := xif_f hc h
      refine g_bipush (v := (-2 : Int32)) hX dX6_cut_12 (by decide) ?_
      exact g_iret hX hM (Option.some.inj h) dX6_cut_14
set_option maxRecDepth 100000 in
theorem c6_isCode {l : Launch} {K : xK}  (hvc : xVC (xvl K)) (hV : (6, 0) ∈ xvl K) {S : xSt} {a1 : Int32} {out : xR} (h : f6_isCode S  a1 = some out) : xMet l K yX6_isCode cX6_isCode 2 (some .boolean) 0 0 S [xr K 6 0, .int a1] out := by
  refine xMet_of RX6 (by decide +kernel) rfl hvc (Nat.le_of_ble_eq_true rfl) ?_
  intro X hX hM hR
  show xG K X S 0 [(0, xr K 6 0), (1, .int a1)] []
  unfold f6_isCode at h
  refine g_iload_n hX dX6_isCode_0 rfl 1 rfl ?_
  refine g_if_lt hX 26 dX6_isCode_1 (by decide) (fun hc => ?_) (fun hc => ?_)
  · have h := xif_t hc h
    refine g_iconst (v := (0 : Int32)) hX dX6_isCode_26 (by decide) ?_
    obtain ⟨hz, h⟩ := xne_inv h
    exact g_zret hX hM hz (Option.some.inj h) dX6_isCode_27
  · have h := xif_f hc h
    refine g_iload_n hX dX6_isCode_4 rfl 1 rfl ?_
    refine g_aload_n hX dX6_isCode_5 rfl 0 rfl ?_
    refine g_getR hX hV xf6_41 dX6_isCode_6 ?_
    refine g_getI hX (xvc_6_5 hX.vc hV) xf6_142 dX6_isCode_9 ?_
    refine g_icmp_ge hX 26 dX6_isCode_12 (by decide) (fun hc => ?_) (fun hc => ?_)
    · have h := xif_t hc h
      refine g_iconst (v := (0 : Int32)) hX dX6_isCode_26 (by decide) ?_
      obtain ⟨hz, h⟩ := xne_inv h
      exact g_zret hX hM hz (Option.some.inj h) dX6_isCode_27
    · have h := xif_f hc h
      refine g_iload_n hX dX6_isCode_15 rfl 1 rfl ?_
      refine g_sipush (v := (281 : Int32)) hX dX6_isCode_16 (by decide) ?_
      refine g_icmp_ge hX 26 dX6_isCode_19 (by decide) (fun hc => ?_) (fun hc => ?_)
      · have h := xif_t hc h
        refine g_iconst (v := (0 : Int32)) hX dX6_isCode_26 (by decide) ?_
        obtain ⟨hz, h⟩ := xne_inv h
        exact g_zret hX hM hz (Option.some.inj h) dX6_isCode_27
      · have h := xif_f hc h
        refine g_iconst (v := (1 : Int32)) hX dX6_isCode_22 (by decide) ?_
        refine g_goto hX 27 dX6_isCode_23 (by decide) ?_
        obtain ⟨hz, h⟩ := xne_inv h
        exact g_zret hX hM hz (Option.some.inj h) dX6_isCode_27
set_option maxRecDepth 100000 in
theorem c6_spoil {l : Launch} {K : xK}  (hvc : xVC (xvl K)) (hV : (6, 0) ∈ xvl K) {S : xSt} {a1 : Int32} {a2 : Int32} {out : xR} (h : f6_spoil S  a1 a2 = some out) : xMet l K yX6_spoil cX6_spoil 3 (some .int) 6 139 S [xr K 6 0, .int a1, .int a2] out := by
  refine xMet_of RX6 (by decide +kernel) rfl hvc (Nat.le_of_ble_eq_true rfl) ?_
  intro X hX hM hR
  show xG K X S 0 [(0, xr K 6 0), (1, .int a1), (2, .int a2)] []
  unfold f6_spoil at h
  refine g_aload_n hX dX6_spoil_0 rfl 0 rfl ?_
  refine g_iload_n hX dX6_spoil_1 rfl 1 rfl ?_
  obtain ⟨S1, r2, hcS1, h⟩ := xbI_inv h
  refine g_callV hX hR hV (fun l => c6_isCode (l := l) hX.vc hV hcS1) xc6_95 rfl ⟨by decide, by decide⟩ rfl rfl (Nat.le_of_ble_eq_true rfl) dX6_spoil_2 ?_
  refine g_if_ne hX 10 dX6_spoil_5 (by decide) (fun hc => ?_) (fun hc => ?_)
  · have h := xif_f hc h
    refine g_iload_n hX dX6_spoil_10 rfl 2 rfl ?_
    refine g_iconst (v := (1 : Int32)) hX dX6_spoil_11 (by decide) ?_
    refine g_icmp_lt hX 22 dX6_spoil_12 (by decide) (fun hc => ?_) (fun hc => ?_)
    · have h := xif_t hc h
      refine g_bipush (v := (-2 : Int32)) hX dX6_spoil_22 (by decide) ?_
      exact g_iret hX hM (Option.some.inj h) dX6_spoil_24
    · have h := xif_f hc h
      refine g_iload_n hX dX6_spoil_15 rfl 2 rfl ?_
      refine g_sipush (v := (511 : Int32)) hX dX6_spoil_16 (by decide) ?_
      refine g_icmp_le hX 25 dX6_spoil_19 (by decide) (fun hc => ?_) (fun hc => ?_)
      · have h := xif_t hc h
        refine g_aload_n hX dX6_spoil_25 rfl 0 rfl ?_
        refine g_getR hX hV xf6_19 dX6_spoil_26 ?_
        refine g_aload_n hX dX6_spoil_29 rfl 0 rfl ?_
        refine g_getR hX hV xf6_12 dX6_spoil_30 ?_
        obtain ⟨S3, hcS3, h⟩ := xbV_inv h
        refine g_callV hX hR (xvc_6_1 hX.vc hV) (fun l => c1_record (l := l) hX.vc (xvc_6_1 hX.vc hV) (xvc_6_0 hX.vc hV) hcS3) xc6_72 rfl ⟨by decide, by decide⟩ rfl rfl (Nat.le_of_ble_eq_true rfl) dX6_spoil_33 ?_
        refine g_aload_n hX dX6_spoil_36 rfl 0 rfl ?_
        refine g_getR hX hV xf6_12 dX6_spoil_37 ?_
        refine g_getR hX (xvc_6_0 hX.vc hV) (xf6_99 _) dX6_spoil_40 ?_
        refine g_iload_n hX dX6_spoil_43 rfl 1 rfl ?_
        refine g_dup2 hX dX6_spoil_44 rfl rfl ?_
        obtain ⟨hbj4, h⟩ := xat_inv h
        refine g_iald (n := 281) hX (xvc_4_2 hX.vc (xvc_6_0 hX.vc hV)) rfl hbj4 dX6_spoil_45 ?_
        refine g_iload_n hX dX6_spoil_46 rfl 2 rfl ?_
        refine g_ixor hX dX6_spoil_47 ?_
        obtain ⟨hbj5, h⟩ := xat_inv h
        obtain ⟨S6, eS6, h⟩ := xlet_inv h
        refine g_iast (n := 281) hX (xvc_4_2 hX.vc (xvc_6_0 hX.vc hV)) (fun _ => rfl) hbj5 dX6_spoil_48 eS6 ?_
        refine g_aload_n hX dX6_spoil_49 rfl 0 rfl ?_
        obtain ⟨S7, hcS7, h⟩ := xbV_inv h
        refine g_callV hX hR hV (fun l => c6_refresh (l := l) hX.vc hV hcS7) xc6_65 rfl ⟨by decide, by decide⟩ rfl rfl (Nat.le_of_ble_eq_true rfl) dX6_spoil_50 ?_
        refine g_aload_n hX dX6_spoil_53 rfl 0 rfl ?_
        refine g_getR hX hV xf6_52 dX6_spoil_54 ?_
        refine g_iload_n hX dX6_spoil_57 rfl 1 rfl ?_
        obtain ⟨hbj8, h⟩ := xat_inv h
        refine g_iald (n := 281) hX (xvc_6_7 hX.vc hV) rfl hbj8 dX6_spoil_58 ?_
        exact g_iret hX hM (Option.some.inj h) dX6_spoil_59
      · have h := xif_f hc h
        refine g_bipush (v := (-2 : Int32)) hX dX6_spoil_22 (by decide) ?_
        exact g_iret hX hM (Option.some.inj h) dX6_spoil_24
  · have h := xif_t hc h
    refine g_iconst (v := (-1 : Int32)) hX dX6_spoil_8 (by decide) ?_
    exact g_iret hX hM (Option.some.inj h) dX6_spoil_9
set_option maxRecDepth 100000 in
theorem sf6_sign_J15 {K : xK} {X : xX} {out : xR}  (hX : xOK K X RX6 cX6_sign 2) (hM : xM K X out (some .int)) (hR : xRm X 0 0) (hV : (6, 0) ∈ xvl K)  {S : xSt}  (h : f6_sign_J15   S  = some out) : xG K X S 15 [] [] := by
  unfold f6_sign_J15 at h
  refine g_iconst (v := (-1 : Int32)) hX dX6_sign_15 (by decide) ?_
  refine g_goto hX 28 dX6_sign_16 (by decide) ?_
  exact g_iret hX hM (Option.some.inj h) dX6_sign_28
set_option maxRecDepth 100000 in
theorem c6_sign {l : Launch} {K : xK}  (hvc : xVC (xvl K)) (hV : (6, 0) ∈ xvl K) {S : xSt} {a1 : Int32} {out : xR} (h : f6_sign S  a1 = some out) : xMet l K yX6_sign cX6_sign 2 (some .int) 0 0 S [xr K 6 0, .int a1] out := by
  refine xMet_of RX6 (by decide +kernel) rfl hvc (Nat.le_of_ble_eq_true rfl) ?_
  intro X hX hM hR
  show xG K X S 0 [(0, xr K 6 0), (1, .int a1)] []
  unfold f6_sign at h
  refine g_iload_n hX dX6_sign_0 rfl 1 rfl ?_
  refine g_if_lt hX 15 dX6_sign_1 (by decide) (fun hc => ?_) (fun hc => ?_)
  · have h := xif_t hc h
    exact g_sub [] (by rfl) (sf6_sign_J15 hX hM hR hV h)
  · have h := xif_f hc h
    refine g_iload_n hX dX6_sign_4 rfl 1 rfl ?_
    refine g_aload_n hX dX6_sign_5 rfl 0 rfl ?_
    refine g_getR hX hV xf6_12 dX6_sign_6 ?_
    refine g_getI hX (xvc_6_0 hX.vc hV) xf6_82 dX6_sign_9 ?_
    refine g_icmp_lt hX 19 dX6_sign_12 (by decide) (fun hc => ?_) (fun hc => ?_)
    · have h := xif_t hc h
      refine g_aload_n hX dX6_sign_19 rfl 0 rfl ?_
      refine g_getR hX hV xf6_12 dX6_sign_20 ?_
      refine g_getR hX (xvc_6_0 hX.vc hV) (xf6_86 _) dX6_sign_23 ?_
      refine g_iload_n hX dX6_sign_26 rfl 1 rfl ?_
      obtain ⟨hbj1, h⟩ := xat_inv h
      refine g_iald (n := 240) hX (xvc_4_1 hX.vc (xvc_6_0 hX.vc hV)) rfl hbj1 dX6_sign_27 ?_
      exact g_iret hX hM (Option.some.inj h) dX6_sign_28
    · have h := xif_f hc h
      exact g_sub [] (by rfl) (sf6_sign_J15 hX hM hR hV h)
set_option maxRecDepth 100000 in
theorem c6_ofCode {l : Launch} {K : xK}  (hvc : xVC (xvl K)) (hV : (6, 0) ∈ xvl K) {S : xSt} {a1 : Int32} {a2 : Int32} {out : xR} (h : f6_ofCode S  a1 a2 = some out) : xMet l K yX6_ofCode cX6_ofCode 3 (some .int) 1 21 S [xr K 6 0, .int a1, .int a2] out := by
  refine xMet_of RX6 (by decide +kernel) rfl hvc (Nat.le_of_ble_eq_true rfl) ?_
  intro X hX hM hR
  show xG K X S 0 [(0, xr K 6 0), (1, .int a1), (2, .int a2)] []
  unfold f6_ofCode at h
  refine g_aload_n hX dX6_ofCode_0 rfl 0 rfl ?_
  refine g_iload_n hX dX6_ofCode_1 rfl 1 rfl ?_
  obtain ⟨S1, r2, hcS1, h⟩ := xbI_inv h
  refine g_callV hX hR hV (fun l => c6_isCode (l := l) hX.vc hV hcS1) xc6_95 rfl ⟨by decide, by decide⟩ rfl rfl (Nat.le_of_ble_eq_true rfl) dX6_ofCode_2 ?_
  refine g_if_ne hX 10 dX6_ofCode_5 (by decide) (fun hc => ?_) (fun hc => ?_)
  · have h := xif_f hc h
    refine g_iload_n hX dX6_ofCode_10 rfl 2 rfl ?_
    by_cases hc : a2.toInt < 0 ∨ 5 < a2.toInt
    · have h := xif_t hc h
      refine g_tsOut hX 105 dX6_ofCode_11 hc (by decide) ?_
      refine g_bipush (v := (-2 : Int32)) hX dX6_ofCode_105 (by decide) ?_
      exact g_iret hX hM (Option.some.inj h) dX6_ofCode_107
    have h := xif_f hc h
    generalize hn : (a2.toInt - 0).toNat = n at h
    match n, hn, h with
    | 0, hn, h =>
      refine g_tsIn hX 48 dX6_ofCode_11 hc 0 hn (by rfl) (by decide) ?_
      refine g_aload_n hX dX6_ofCode_48 rfl 0 rfl ?_
      refine g_getR hX hV xf6_41 dX6_ofCode_49 ?_
      refine g_getR hX (xvc_6_5 hX.vc hV) (xf6_127 _) dX6_ofCode_52 ?_
      refine g_iload_n hX dX6_ofCode_55 rfl 1 rfl ?_
      obtain ⟨hbj3, h⟩ := xat_inv h
      refine g_iald (n := 281) hX (xvc_5_1 hX.vc (xvc_6_5 hX.vc hV)) rfl hbj3 dX6_ofCode_56 ?_
      exact g_iret hX hM (Option.some.inj h) dX6_ofCode_57
    | 1, hn, h =>
      refine g_tsIn hX 58 dX6_ofCode_11 hc 1 hn (by rfl) (by decide) ?_
      refine g_aload_n hX dX6_ofCode_58 rfl 0 rfl ?_
      refine g_getR hX hV xf6_52 dX6_ofCode_59 ?_
      refine g_iload_n hX dX6_ofCode_62 rfl 1 rfl ?_
      obtain ⟨hbj4, h⟩ := xat_inv h
      refine g_iald (n := 281) hX (xvc_6_7 hX.vc hV) rfl hbj4 dX6_ofCode_63 ?_
      exact g_iret hX hM (Option.some.inj h) dX6_ofCode_64
    | 2, hn, h =>
      refine g_tsIn hX 65 dX6_ofCode_11 hc 2 hn (by rfl) (by decide) ?_
      refine g_aload_n hX dX6_ofCode_65 rfl 0 rfl ?_
      refine g_getR hX hV xf6_41 dX6_ofCode_66 ?_
      refine g_getR hX (xvc_6_5 hX.vc hV) (xf6_130 _) dX6_ofCode_69 ?_
      refine g_iload_n hX dX6_ofCode_72 rfl 1 rfl ?_
      obtain ⟨hbj5, h⟩ := xat_inv h
      refine g_iald (n := 281) hX (xvc_5_2 hX.vc (xvc_6_5 hX.vc hV)) rfl hbj5 dX6_ofCode_73 ?_
      exact g_iret hX hM (Option.some.inj h) dX6_ofCode_74
    | 3, hn, h =>
      refine g_tsIn hX 75 dX6_ofCode_11 hc 3 hn (by rfl) (by decide) ?_
      refine g_aload_n hX dX6_ofCode_75 rfl 0 rfl ?_
      refine g_getR hX hV xf6_41 dX6_ofCode_76 ?_
      refine g_getR hX (xvc_6_5 hX.vc hV) (xf6_133 _) dX6_ofCode_79 ?_
      refine g_iload_n hX dX6_ofCode_82 rfl 1 rfl ?_
      obtain ⟨hbj6, h⟩ := xat_inv h
      refine g_iald (n := 281) hX (xvc_5_3 hX.vc (xvc_6_5 hX.vc hV)) rfl hbj6 dX6_ofCode_83 ?_
      exact g_iret hX hM (Option.some.inj h) dX6_ofCode_84
    | 4, hn, h =>
      refine g_tsIn hX 85 dX6_ofCode_11 hc 4 hn (by rfl) (by decide) ?_
      refine g_aload_n hX dX6_ofCode_85 rfl 0 rfl ?_
      refine g_getR hX hV xf6_41 dX6_ofCode_86 ?_
      refine g_getR hX (xvc_6_5 hX.vc hV) (xf6_136 _) dX6_ofCode_89 ?_
      refine g_iload_n hX dX6_ofCode_92 rfl 1 rfl ?_
      obtain ⟨hbj7, h⟩ := xat_inv h
      refine g_iald (n := 281) hX (xvc_5_4 hX.vc (xvc_6_5 hX.vc hV)) rfl hbj7 dX6_ofCode_93 ?_
      exact g_iret hX hM (Option.some.inj h) dX6_ofCode_94
    | 5, hn, h =>
      refine g_tsIn hX 95 dX6_ofCode_11 hc 5 hn (by rfl) (by decide) ?_
      refine g_aload_n hX dX6_ofCode_95 rfl 0 rfl ?_
      refine g_getR hX hV xf6_41 dX6_ofCode_96 ?_
      refine g_getR hX (xvc_6_5 hX.vc hV) (xf6_139 _) dX6_ofCode_99 ?_
      refine g_iload_n hX dX6_ofCode_102 rfl 1 rfl ?_
      obtain ⟨hbj8, h⟩ := xat_inv h
      refine g_iald (n := 281) hX (xvc_5_5 hX.vc (xvc_6_5 hX.vc hV)) rfl hbj8 dX6_ofCode_103 ?_
      exact g_iret hX hM (Option.some.inj h) dX6_ofCode_104
    | n + 6, hn, h => cases h
  · have h := xif_t hc h
    refine g_iconst (v := (-1 : Int32)) hX dX6_ofCode_8 (by decide) ?_
    exact g_iret hX hM (Option.some.inj h) dX6_ofCode_9
set_option maxRecDepth 100000 in
theorem c6_count {l : Launch} {K : xK}  (hvc : xVC (xvl K)) (hV : (6, 0) ∈ xvl K) {S : xSt} {a1 : Int32} {out : xR} (h : f6_count S  a1 = some out) : xMet l K yX6_count cX6_count 2 (some .int) 1 22 S [xr K 6 0, .int a1] out := by
  refine xMet_of RX6 (by decide +kernel) rfl hvc (Nat.le_of_ble_eq_true rfl) ?_
  intro X hX hM hR
  show xG K X S 0 [(0, xr K 6 0), (1, .int a1)] []
  unfold f6_count at h
  refine g_iload_n hX dX6_count_0 rfl 1 rfl ?_
  by_cases hc : a1.toInt < 0 ∨ 11 < a1.toInt
  · have h := xif_t hc h
    refine g_tsOut hX 169 dX6_count_1 hc (by decide) ?_
    refine g_bipush (v := (-2 : Int32)) hX dX6_count_169 (by decide) ?_
    exact g_iret hX hM (Option.some.inj h) dX6_count_171
  have h := xif_f hc h
  generalize hn : (a1.toInt - 0).toNat = n at h
  match n, hn, h with
  | 0, hn, h =>
    refine g_tsIn hX 64 dX6_count_1 hc 0 hn (by rfl) (by decide) ?_
    refine g_aload_n hX dX6_count_64 rfl 0 rfl ?_
    refine g_getR hX hV xf6_12 dX6_count_65 ?_
    refine g_getI hX (xvc_6_0 hX.vc hV) xf6_82 dX6_count_68 ?_
    exact g_iret hX hM (Option.some.inj h) dX6_count_71
  | 1, hn, h =>
    refine g_tsIn hX 72 dX6_count_1 hc 1 hn (by rfl) (by decide) ?_
    refine g_aload_n hX dX6_count_72 rfl 0 rfl ?_
    refine g_getR hX hV xf6_41 dX6_count_73 ?_
    refine g_getI hX (xvc_6_5 hX.vc hV) xf6_142 dX6_count_76 ?_
    exact g_iret hX hM (Option.some.inj h) dX6_count_79
  | 2, hn, h =>
    refine g_tsIn hX 80 dX6_count_1 hc 2 hn (by rfl) (by decide) ?_
    refine g_aload_n hX dX6_count_80 rfl 0 rfl ?_
    refine g_getR hX hV xf6_41 dX6_count_81 ?_
    refine g_getI hX (xvc_6_5 hX.vc hV) xf6_145 dX6_count_84 ?_
    exact g_iret hX hM (Option.some.inj h) dX6_count_87
  | 3, hn, h =>
    refine g_tsIn hX 88 dX6_count_1 hc 3 hn (by rfl) (by decide) ?_
    refine g_aload_n hX dX6_count_88 rfl 0 rfl ?_
    refine g_getR hX hV xf6_41 dX6_count_89 ?_
    refine g_getI hX (xvc_6_5 hX.vc hV) xf6_148 dX6_count_92 ?_
    exact g_iret hX hM (Option.some.inj h) dX6_count_95
  | 4, hn, h =>
    refine g_tsIn hX 96 dX6_count_1 hc 4 hn (by rfl) (by decide) ?_
    refine g_aload_n hX dX6_count_96 rfl 0 rfl ?_
    refine g_getR hX hV xf6_41 dX6_count_97 ?_
    refine g_getR hX (xvc_6_5 hX.vc hV) (xf6_151 _) dX6_count_100 ?_
    refine g_getI hX (xvc_5_0 hX.vc (xvc_6_5 hX.vc hV)) xf6_155 dX6_count_103 ?_
    exact g_iret hX hM (Option.some.inj h) dX6_count_106
  | 5, hn, h =>
    refine g_tsIn hX 107 dX6_count_1 hc 5 hn (by rfl) (by decide) ?_
    refine g_aload_n hX dX6_count_107 rfl 0 rfl ?_
    refine g_getR hX hV xf6_41 dX6_count_108 ?_
    refine g_getI hX (xvc_6_5 hX.vc hV) xf6_160 dX6_count_111 ?_
    exact g_iret hX hM (Option.some.inj h) dX6_count_114
  | 6, hn, h =>
    refine g_tsIn hX 115 dX6_count_1 hc 6 hn (by rfl) (by decide) ?_
    refine g_aload_n hX dX6_count_115 rfl 0 rfl ?_
    refine g_getR hX hV xf6_12 dX6_count_116 ?_
    obtain ⟨S1, r2, hcS1, h⟩ := xbI_inv h
    refine g_callV hX hR (xvc_6_0 hX.vc hV) (fun l => c4_countSpoiled (l := l) hX.vc (xvc_6_0 hX.vc hV) hcS1) xc6_163 rfl ⟨by decide, by decide⟩ rfl rfl (Nat.le_of_ble_eq_true rfl) dX6_count_119 ?_
    exact g_iret hX hM (Option.some.inj h) dX6_count_122
  | 7, hn, h =>
    refine g_tsIn hX 123 dX6_count_1 hc 7 hn (by rfl) (by decide) ?_
    refine g_aload_n hX dX6_count_123 rfl 0 rfl ?_
    refine g_getR hX hV xf6_34 dX6_count_124 ?_
    refine g_getI hX (xvc_6_4 hX.vc hV) xf6_106 dX6_count_127 ?_
    exact g_iret hX hM (Option.some.inj h) dX6_count_130
  | 8, hn, h =>
    refine g_tsIn hX 131 dX6_count_1 hc 8 hn (by rfl) (by decide) ?_
    refine g_aload_n hX dX6_count_131 rfl 0 rfl ?_
    refine g_getR hX hV xf6_19 dX6_count_132 ?_
    refine g_getI hX (xvc_6_1 hX.vc hV) xf6_166 dX6_count_135 ?_
    exact g_iret hX hM (Option.some.inj h) dX6_count_138
  | 9, hn, h =>
    refine g_tsIn hX 139 dX6_count_1 hc 9 hn (by rfl) (by decide) ?_
    refine g_aload_n hX dX6_count_139 rfl 0 rfl ?_
    refine g_getR hX hV xf6_12 dX6_count_140 ?_
    refine g_getR hX (xvc_6_0 hX.vc hV) (xf6_76 _) dX6_count_143 ?_
    refine g_iconst (v := (0 : Int32)) hX dX6_count_146 (by decide) ?_
    obtain ⟨hbj3, h⟩ := xat_inv h
    refine g_iald (n := 3) hX (xvc_4_0 hX.vc (xvc_6_0 hX.vc hV)) rfl hbj3 dX6_count_147 ?_
    exact g_iret hX hM (Option.some.inj h) dX6_count_148
  | 10, hn, h =>
    refine g_tsIn hX 149 dX6_count_1 hc 10 hn (by rfl) (by decide) ?_
    refine g_aload_n hX dX6_count_149 rfl 0 rfl ?_
    refine g_getR hX hV xf6_12 dX6_count_150 ?_
    refine g_getR hX (xvc_6_0 hX.vc hV) (xf6_76 _) dX6_count_153 ?_
    refine g_iconst (v := (1 : Int32)) hX dX6_count_156 (by decide) ?_
    obtain ⟨hbj4, h⟩ := xat_inv h
    refine g_iald (n := 3) hX (xvc_4_0 hX.vc (xvc_6_0 hX.vc hV)) rfl hbj4 dX6_count_157 ?_
    exact g_iret hX hM (Option.some.inj h) dX6_count_158
  | 11, hn, h =>
    refine g_tsIn hX 159 dX6_count_1 hc 11 hn (by rfl) (by decide) ?_
    refine g_aload_n hX dX6_count_159 rfl 0 rfl ?_
    refine g_getR hX hV xf6_12 dX6_count_160 ?_
    refine g_getR hX (xvc_6_0 hX.vc hV) (xf6_76 _) dX6_count_163 ?_
    refine g_iconst (v := (2 : Int32)) hX dX6_count_166 (by decide) ?_
    obtain ⟨hbj5, h⟩ := xat_inv h
    refine g_iald (n := 3) hX (xvc_4_0 hX.vc (xvc_6_0 hX.vc hV)) rfl hbj5 dX6_count_167 ?_
    exact g_iret hX hM (Option.some.inj h) dX6_count_168
  | n + 12, hn, h => cases h
set_option maxRecDepth 100000 in
theorem c6_entry {l : Launch} {K : xK}  (hvc : xVC (xvl K)) (hV : (6, 0) ∈ xvl K) {S : xSt} {a1 : Int32} {a2 : Int32} {out : xR} (h : f6_entry S  a1 a2 = some out) : xMet l K yX6_entry cX6_entry 3 (some .int) 0 0 S [xr K 6 0, .int a1, .int a2] out := by
  refine xMet_of RX6 (by decide +kernel) rfl hvc (Nat.le_of_ble_eq_true rfl) ?_
  intro X hX hM hR
  show xG K X S 0 [(0, xr K 6 0), (1, .int a1), (2, .int a2)] []
  unfold f6_entry at h
  refine g_iload_n hX dX6_entry_0 rfl 1 rfl ?_
  refine g_if_lt hX 25 dX6_entry_1 (by decide) (fun hc => ?_) (fun hc => ?_)
  · have h := xif_t hc h
    refine g_iconst (v := (-1 : Int32)) hX dX6_entry_25 (by decide) ?_
    exact g_iret hX hM (Option.some.inj h) dX6_entry_26
  · have h := xif_f hc h
    refine g_iload_n hX dX6_entry_4 rfl 1 rfl ?_
    refine g_aload_n hX dX6_entry_5 rfl 0 rfl ?_
    refine g_getR hX hV xf6_41 dX6_entry_6 ?_
    refine g_getR hX (xvc_6_5 hX.vc hV) (xf6_151 _) dX6_entry_9 ?_
    refine g_getI hX (xvc_5_0 hX.vc (xvc_6_5 hX.vc hV)) xf6_155 dX6_entry_12 ?_
    refine g_icmp_ge hX 25 dX6_entry_15 (by decide) (fun hc => ?_) (fun hc => ?_)
    · have h := xif_t hc h
      refine g_iconst (v := (-1 : Int32)) hX dX6_entry_25 (by decide) ?_
      exact g_iret hX hM (Option.some.inj h) dX6_entry_26
    · have h := xif_f hc h
      refine g_iload_n hX dX6_entry_18 rfl 1 rfl ?_
      refine g_sipush (v := (512 : Int32)) hX dX6_entry_19 (by decide) ?_
      refine g_icmp_lt hX 27 dX6_entry_22 (by decide) (fun hc => ?_) (fun hc => ?_)
      · have h := xif_t hc h
        refine g_iload_n hX dX6_entry_27 rfl 2 rfl ?_
        by_cases hc : a2.toInt < 0 ∨ 2 < a2.toInt
        · have h := xif_t hc h
          refine g_tsOut hX 95 dX6_entry_28 hc (by decide) ?_
          refine g_bipush (v := (-2 : Int32)) hX dX6_entry_95 (by decide) ?_
          exact g_iret hX hM (Option.some.inj h) dX6_entry_97
        have h := xif_f hc h
        generalize hn : (a2.toInt - 0).toNat = n at h
        match n, hn, h with
        | 0, hn, h =>
          refine g_tsIn hX 56 dX6_entry_28 hc 0 hn (by rfl) (by decide) ?_
          refine g_aload_n hX dX6_entry_56 rfl 0 rfl ?_
          refine g_getR hX hV xf6_41 dX6_entry_57 ?_
          refine g_getR hX (xvc_6_5 hX.vc hV) (xf6_151 _) dX6_entry_60 ?_
          refine g_getR hX (xvc_5_0 hX.vc (xvc_6_5 hX.vc hV)) (xf6_169 _) dX6_entry_63 ?_
          refine g_iload_n hX dX6_entry_66 rfl 1 rfl ?_
          obtain ⟨hbj1, h⟩ := xat_inv h
          refine g_iald (n := 512) hX (xvc_0_2 hX.vc (xvc_5_0 hX.vc (xvc_6_5 hX.vc hV))) rfl hbj1 dX6_entry_67 ?_
          exact g_iret hX hM (Option.some.inj h) dX6_entry_68
        | 1, hn, h =>
          refine g_tsIn hX 69 dX6_entry_28 hc 1 hn (by rfl) (by decide) ?_
          refine g_aload_n hX dX6_entry_69 rfl 0 rfl ?_
          refine g_getR hX hV xf6_41 dX6_entry_70 ?_
          refine g_getR hX (xvc_6_5 hX.vc hV) (xf6_151 _) dX6_entry_73 ?_
          refine g_getR hX (xvc_5_0 hX.vc (xvc_6_5 hX.vc hV)) (xf6_170 _) dX6_entry_76 ?_
          refine g_iload_n hX dX6_entry_79 rfl 1 rfl ?_
          obtain ⟨hbj2, h⟩ := xat_inv h
          refine g_iald (n := 512) hX (xvc_0_1 hX.vc (xvc_5_0 hX.vc (xvc_6_5 hX.vc hV))) rfl hbj2 dX6_entry_80 ?_
          exact g_iret hX hM (Option.some.inj h) dX6_entry_81
        | 2, hn, h =>
          refine g_tsIn hX 82 dX6_entry_28 hc 2 hn (by rfl) (by decide) ?_
          refine g_aload_n hX dX6_entry_82 rfl 0 rfl ?_
          refine g_getR hX hV xf6_41 dX6_entry_83 ?_
          refine g_getR hX (xvc_6_5 hX.vc hV) (xf6_151 _) dX6_entry_86 ?_
          refine g_getR hX (xvc_5_0 hX.vc (xvc_6_5 hX.vc hV)) (xf6_173 _) dX6_entry_89 ?_
          refine g_iload_n hX dX6_entry_92 rfl 1 rfl ?_
          obtain ⟨hbj3, h⟩ := xat_inv h
          refine g_iald (n := 512) hX (xvc_0_0 hX.vc (xvc_5_0 hX.vc (xvc_6_5 hX.vc hV))) rfl hbj3 dX6_entry_93 ?_
          exact g_iret hX hM (Option.some.inj h) dX6_entry_94
        | n + 3, hn, h => cases h
      · have h := xif_f hc h
        refine g_iconst (v := (-1 : Int32)) hX dX6_entry_25 (by decide) ?_
        exact g_iret hX hM (Option.some.inj h) dX6_entry_26
set_option maxRecDepth 100000 in
theorem c6_reading {l : Launch} {K : xK}  (hvc : xVC (xvl K)) (hV : (6, 0) ∈ xvl K) {S : xSt} {a1 : Int32} {out : xR} (h : f6_reading S  a1 = some out) : xMet l K yX6_reading cX6_reading 2 (some .int) 2 37 S [xr K 6 0, .int a1] out := by
  refine xMet_of RX6 (by decide +kernel) rfl hvc (Nat.le_of_ble_eq_true rfl) ?_
  intro X hX hM hR
  show xG K X S 0 [(0, xr K 6 0), (1, .int a1)] []
  unfold f6_reading at h
  refine g_iload_n hX dX6_reading_0 rfl 1 rfl ?_
  by_cases hc : a1.toInt < 0 ∨ 5 < a1.toInt
  · have h := xif_t hc h
    refine g_tsOut hX 102 dX6_reading_1 hc (by decide) ?_
    refine g_bipush (v := (-2 : Int32)) hX dX6_reading_102 (by decide) ?_
    exact g_iret hX hM (Option.some.inj h) dX6_reading_104
  have h := xif_f hc h
  generalize hn : (a1.toInt - 0).toNat = n at h
  match n, hn, h with
  | 0, hn, h =>
    refine g_tsIn hX 40 dX6_reading_1 hc 0 hn (by rfl) (by decide) ?_
    refine g_aload_n hX dX6_reading_40 rfl 0 rfl ?_
    refine g_getR hX hV xf6_48 dX6_reading_41 ?_
    refine g_getI hX (xvc_6_6 hX.vc hV) xf6_176 dX6_reading_44 ?_
    exact g_iret hX hM (Option.some.inj h) dX6_reading_47
  | 1, hn, h =>
    refine g_tsIn hX 48 dX6_reading_1 hc 1 hn (by rfl) (by decide) ?_
    refine g_aload_n hX dX6_reading_48 rfl 0 rfl ?_
    refine g_getR hX hV xf6_48 dX6_reading_49 ?_
    refine g_getI hX (xvc_6_6 hX.vc hV) xf6_179 dX6_reading_52 ?_
    exact g_iret hX hM (Option.some.inj h) dX6_reading_55
  | 2, hn, h =>
    refine g_tsIn hX 56 dX6_reading_1 hc 2 hn (by rfl) (by decide) ?_
    refine g_aload_n hX dX6_reading_56 rfl 0 rfl ?_
    refine g_getR hX hV xf6_48 dX6_reading_57 ?_
    refine g_getI hX (xvc_6_6 hX.vc hV) xf6_182 dX6_reading_60 ?_
    exact g_iret hX hM (Option.some.inj h) dX6_reading_63
  | 3, hn, h =>
    refine g_tsIn hX 64 dX6_reading_1 hc 3 hn (by rfl) (by decide) ?_
    refine g_aload_n hX dX6_reading_64 rfl 0 rfl ?_
    refine g_getR hX hV xf6_48 dX6_reading_65 ?_
    refine g_getI hX (xvc_6_6 hX.vc hV) xf6_185 dX6_reading_68 ?_
    exact g_iret hX hM (Option.some.inj h) dX6_reading_71
  | 4, hn, h =>
    refine g_tsIn hX 72 dX6_reading_1 hc 4 hn (by rfl) (by decide) ?_
    refine g_aload_n hX dX6_reading_72 rfl 0 rfl ?_
    refine g_getR hX hV xf6_48 dX6_reading_73 ?_
    refine g_getI hX (xvc_6_6 hX.vc hV) xf6_186 dX6_reading_76 ?_
    exact g_iret hX hM (Option.some.inj h) dX6_reading_79
  | 5, hn, h =>
    refine g_tsIn hX 80 dX6_reading_1 hc 5 hn (by rfl) (by decide) ?_
    refine g_aload_n hX dX6_reading_80 rfl 0 rfl ?_
    refine g_getR hX hV xf6_48 dX6_reading_81 ?_
    refine g_aload_n hX dX6_reading_84 rfl 0 rfl ?_
    refine g_getR hX hV xf6_12 dX6_reading_85 ?_
    refine g_getR hX (xvc_6_0 hX.vc hV) (xf6_86 _) dX6_reading_88 ?_
    refine g_aload_n hX dX6_reading_91 rfl 0 rfl ?_
    refine g_getR hX hV xf6_12 dX6_reading_92 ?_
    refine g_getI hX (xvc_6_0 hX.vc hV) xf6_82 dX6_reading_95 ?_
    obtain ⟨S1, r2, hcS1, h⟩ := xbI_inv h
    refine g_callV hX hR (xvc_6_6 hX.vc hV) (fun l => c3_firstDifference (l := l) hX.vc (xvc_6_6 hX.vc hV) (xvc_4_1 hX.vc (xvc_6_0 hX.vc hV)) hcS1) xc6_189 rfl ⟨by decide, by decide⟩ rfl rfl (Nat.le_of_ble_eq_true rfl) dX6_reading_98 ?_
    exact g_iret hX hM (Option.some.inj h) dX6_reading_101
  | n + 6, hn, h => cases h
set_option maxRecDepth 100000 in
theorem sf6_read_J21 {K : xK} {X : xX} {out : xR}  (hX : xOK K X RX6 cX6_read 2) (hM : xM K X out (some .int)) (hR : xRm X 0 0) (hV : (6, 0) ∈ xvl K)  {S : xSt}  (h : f6_read_J21   S  = some out) : xG K X S 21 [] [] := by
  unfold f6_read_J21 at h
  refine g_iconst (v := (-1 : Int32)) hX dX6_read_21 (by decide) ?_
  refine g_goto hX 34 dX6_read_22 (by decide) ?_
  exact g_iret hX hM (Option.some.inj h) dX6_read_34
set_option maxRecDepth 100000 in
theorem c6_read {l : Launch} {K : xK}  (hvc : xVC (xvl K)) (hV : (6, 0) ∈ xvl K) {S : xSt} {a1 : Int32} {out : xR} (h : f6_read S  a1 = some out) : xMet l K yX6_read cX6_read 2 (some .int) 0 0 S [xr K 6 0, .int a1] out := by
  refine xMet_of RX6 (by decide +kernel) rfl hvc (Nat.le_of_ble_eq_true rfl) ?_
  intro X hX hM hR
  show xG K X S 0 [(0, xr K 6 0), (1, .int a1)] []
  unfold f6_read at h
  refine g_iload_n hX dX6_read_0 rfl 1 rfl ?_
  refine g_if_lt hX 21 dX6_read_1 (by decide) (fun hc => ?_) (fun hc => ?_)
  · have h := xif_t hc h
    exact g_sub [] (by rfl) (sf6_read_J21 hX hM hR hV h)
  · have h := xif_f hc h
    refine g_iload_n hX dX6_read_4 rfl 1 rfl ?_
    refine g_aload_n hX dX6_read_5 rfl 0 rfl ?_
    refine g_getR hX hV xf6_48 dX6_read_6 ?_
    refine g_getI hX (xvc_6_6 hX.vc hV) xf6_176 dX6_read_9 ?_
    refine g_icmp_ge hX 21 dX6_read_12 (by decide) (fun hc => ?_) (fun hc => ?_)
    · have h := xif_t hc h
      exact g_sub [] (by rfl) (sf6_read_J21 hX hM hR hV h)
    · have h := xif_f hc h
      refine g_iload_n hX dX6_read_15 rfl 1 rfl ?_
      refine g_ldc (v := (39621 : Int32)) hX dX6_read_16 xk6_193 ?_
      refine g_icmp_lt hX 25 dX6_read_18 (by decide) (fun hc => ?_) (fun hc => ?_)
      · have h := xif_t hc h
        refine g_aload_n hX dX6_read_25 rfl 0 rfl ?_
        refine g_getR hX hV xf6_48 dX6_read_26 ?_
        refine g_getR hX (xvc_6_6 hX.vc hV) (xf6_194 _) dX6_read_29 ?_
        refine g_iload_n hX dX6_read_32 rfl 1 rfl ?_
        obtain ⟨hbj1, h⟩ := xat_inv h
        refine g_iald (n := 39621) hX (xvc_3_0 hX.vc (xvc_6_6 hX.vc hV)) rfl hbj1 dX6_read_33 ?_
        exact g_iret hX hM (Option.some.inj h) dX6_read_34
      · have h := xif_f hc h
        exact g_sub [] (by rfl) (sf6_read_J21 hX hM hR hV h)
