set_option maxRecDepth 100000 in
theorem c7_in {l : Launch} {K : xK}  (hvc : xVC (xvl K))  {S : xSt} {a0 : Int32} {a1 : Int32} {a2 : Int32} {out : xR} (h : f7_in S  a0 a1 a2 = some out) : xMet l K yX7_in cX7_in 3 (some .boolean) 0 0 S [.int a0, .int a1, .int a2] out := by
  refine xMet_of RX7 (by decide +kernel) rfl hvc (Nat.le_of_ble_eq_true rfl) ?_
  intro X hX hM hR
  show xG K X S 0 [(0, .int a0), (1, .int a1), (2, .int a2)] []
  unfold f7_in at h
  refine g_iload_n hX dX7_in_0 rfl 0 rfl ?_
  refine g_iload_n hX dX7_in_1 rfl 1 rfl ?_
  refine g_icmp_lt hX 14 dX7_in_2 (by decide) (fun hc => ?_) (fun hc => ?_)
  · have h := xif_t hc h
    refine g_iconst (v := (0 : Int32)) hX dX7_in_14 (by decide) ?_
    obtain ⟨hz, h⟩ := xne_inv h
    exact g_zret hX hM hz (Option.some.inj h) dX7_in_15
  · have h := xif_f hc h
    refine g_iload_n hX dX7_in_5 rfl 0 rfl ?_
    refine g_iload_n hX dX7_in_6 rfl 2 rfl ?_
    refine g_icmp_gt hX 14 dX7_in_7 (by decide) (fun hc => ?_) (fun hc => ?_)
    · have h := xif_t hc h
      refine g_iconst (v := (0 : Int32)) hX dX7_in_14 (by decide) ?_
      obtain ⟨hz, h⟩ := xne_inv h
      exact g_zret hX hM hz (Option.some.inj h) dX7_in_15
    · have h := xif_f hc h
      refine g_iconst (v := (1 : Int32)) hX dX7_in_10 (by decide) ?_
      refine g_goto hX 15 dX7_in_11 (by decide) ?_
      obtain ⟨hz, h⟩ := xne_inv h
      exact g_zret hX hM hz (Option.some.inj h) dX7_in_15
set_option maxRecDepth 100000 in
theorem sf7_record_J81 {K : xK} {X : xX} {out : xR}  (hX : xOK K X RX7 cX7_record 2) (hM : xM K X out none) (hR : xRm X 0 0) (hV : (7, 0) ∈ xvl K)  {S : xSt}  (h : f7_record_J81   S  = some out) : xG K X S 81 [(0, xr K 7 0)] [] := by
  unfold f7_record_J81 at h
  refine g_aload_n hX dX7_record_81 rfl 0 rfl ?_
  refine g_dup hX dX7_record_82 rfl ?_
  refine g_getI hX hV xf7_67 dX7_record_83 ?_
  refine g_iconst (v := (1 : Int32)) hX dX7_record_86 (by decide) ?_
  refine g_iadd hX dX7_record_87 ?_
  obtain ⟨S1, eS1, h⟩ := xlet_inv h
  refine g_putI hX hV xf7_67 dX7_record_88 eS1 ?_
  exact g_vret hX hM (Option.some.inj h) dX7_record_91
set_option maxRecDepth 100000 in
theorem sb7_record_L47 {K : xK} {X : xX} {out : xR}  (hX : xOK K X RX7 cX7_record 2) (hM : xM K X out none) (hR : xRm X 0 0) (hV : (7, 0) ∈ xvl K)  {k47 : xSt → Int32 → Option xR} (hk47 : ∀ (S : xSt) (i1 : Int32), k47 S i1 = some out → xG K X S 47 [(0, xr K 7 0), (1, .int i1)] []) {S : xSt} {i1 : Int32} (h : b7_record_L47   k47 S i1 = some out) : xG K X S 47 [(0, xr K 7 0), (1, .int i1)] [] := by
  unfold b7_record_L47 at h
  refine g_iload_n hX dX7_record_47 rfl 1 rfl ?_
  refine g_sipush (v := (560 : Int32)) hX dX7_record_48 (by decide) ?_
  refine g_icmp_ge hX 81 dX7_record_51 (by decide) (fun hc => ?_) (fun hc => ?_)
  · have h := xif_t hc h
    exact g_sub [0] (by rfl) (sf7_record_J81 hX hM hR hV h)
  · have h := xif_f hc h
    refine g_aload_n hX dX7_record_54 rfl 0 rfl ?_
    refine g_getR hX hV (xf7_13 _) dX7_record_55 ?_
    refine g_aload_n hX dX7_record_58 rfl 0 rfl ?_
    refine g_getI hX hV xf7_67 dX7_record_59 ?_
    refine g_sipush (v := (560 : Int32)) hX dX7_record_62 (by decide) ?_
    refine g_imul hX dX7_record_65 ?_
    refine g_iload_n hX dX7_record_66 rfl 1 rfl ?_
    refine g_iadd hX dX7_record_67 ?_
    refine g_aload_n hX dX7_record_68 rfl 0 rfl ?_
    refine g_getR hX hV (xf7_7 _) dX7_record_69 ?_
    refine g_iload_n hX dX7_record_72 rfl 1 rfl ?_
    obtain ⟨hbj1, h⟩ := xat_inv h
    refine g_iald (n := 560) hX (xvc_7_0 hX.vc hV) rfl hbj1 dX7_record_73 ?_
    obtain ⟨hbj2, h⟩ := xat_inv h
    obtain ⟨S3, eS3, h⟩ := xlet_inv h
    refine g_iast (n := 3360) hX (xvc_7_1 hX.vc hV) (fun _ => rfl) hbj2 dX7_record_74 eS3 ?_
    refine g_iinc (v := (i1 + (1 : Int32))) (lv2 := [(1, .int (i1 + (1 : Int32))), (0, xr K 7 0)]) hX dX7_record_75 1 rfl rfl (by decide) rfl ?_
    refine g_goto hX 47 dX7_record_78 (by decide) ?_
    exact g_sub [1, 0] (by rfl) (hk47 _ _ h)
theorem sf7_record_L47 {K : xK} {X : xX} {out : xR}  (hX : xOK K X RX7 cX7_record 2) (hM : xM K X out none) (hR : xRm X 0 0) (hV : (7, 0) ∈ xvl K)  : ∀ (n : Nat) (S : xSt) (i1 : Int32) (h : f7_record_L47   n S i1 = some out), xG K X S 47 [(0, xr K 7 0), (1, .int i1)] [] := by
  intro n
  induction n with
  | zero => intro S i1 h; cases h
  | succ n ih => intro S i1 h; exact sb7_record_L47 hX hM hR hV  ih h
set_option maxRecDepth 100000 in
theorem sf7_record_J45 {K : xK} {X : xX} {out : xR}  (hX : xOK K X RX7 cX7_record 2) (hM : xM K X out none) (hR : xRm X 0 0) (hV : (7, 0) ∈ xvl K)  {S : xSt}  (h : f7_record_J45   S  = some out) : xG K X S 45 [(0, xr K 7 0)] [] := by
  unfold f7_record_J45 at h
  refine g_iconst (v := (0 : Int32)) hX dX7_record_45 (by decide) ?_
  refine g_istore_n (lv2 := [(1, .int (0 : Int32)), (0, xr K 7 0)]) hX dX7_record_46 rfl (by decide) rfl ?_
  exact g_sub [1, 0] (by rfl) (sf7_record_L47 hX hM hR hV _ _ _ h)
set_option maxRecDepth 100000 in
theorem sf7_record_J40 {K : xK} {X : xX} {out : xR}  (hX : xOK K X RX7 cX7_record 2) (hM : xM K X out none) (hR : xRm X 0 0) (hV : (7, 0) ∈ xvl K)  {S : xSt}  (h : f7_record_J40   S  = some out) : xG K X S 40 [(0, xr K 7 0)] [] := by
  unfold f7_record_J40 at h
  refine g_aload_n hX dX7_record_40 rfl 0 rfl ?_
  refine g_iconst (v := (5 : Int32)) hX dX7_record_41 (by decide) ?_
  obtain ⟨S1, eS1, h⟩ := xlet_inv h
  refine g_putI hX hV xf7_67 dX7_record_42 eS1 ?_
  exact sf7_record_J45 hX hM hR hV h
set_option maxRecDepth 100000 in
theorem sb7_record_L11 {K : xK} {X : xX} {out : xR}  (hX : xOK K X RX7 cX7_record 2) (hM : xM K X out none) (hR : xRm X 0 0) (hV : (7, 0) ∈ xvl K)  {k11 : xSt → Int32 → Option xR} (hk11 : ∀ (S : xSt) (i1 : Int32), k11 S i1 = some out → xG K X S 11 [(0, xr K 7 0), (1, .int i1)] []) {S : xSt} {i1 : Int32} (h : b7_record_L11   k11 S i1 = some out) : xG K X S 11 [(0, xr K 7 0), (1, .int i1)] [] := by
  unfold b7_record_L11 at h
  refine g_iload_n hX dX7_record_11 rfl 1 rfl ?_
  refine g_sipush (v := (2800 : Int32)) hX dX7_record_12 (by decide) ?_
  refine g_icmp_ge hX 40 dX7_record_15 (by decide) (fun hc => ?_) (fun hc => ?_)
  · have h := xif_t hc h
    exact g_sub [0] (by rfl) (sf7_record_J40 hX hM hR hV h)
  · have h := xif_f hc h
    refine g_aload_n hX dX7_record_18 rfl 0 rfl ?_
    refine g_getR hX hV (xf7_13 _) dX7_record_19 ?_
    refine g_iload_n hX dX7_record_22 rfl 1 rfl ?_
    refine g_aload_n hX dX7_record_23 rfl 0 rfl ?_
    refine g_getR hX hV (xf7_13 _) dX7_record_24 ?_
    refine g_iload_n hX dX7_record_27 rfl 1 rfl ?_
    refine g_sipush (v := (560 : Int32)) hX dX7_record_28 (by decide) ?_
    refine g_iadd hX dX7_record_31 ?_
    obtain ⟨hbj1, h⟩ := xat_inv h
    refine g_iald (n := 3360) hX (xvc_7_1 hX.vc hV) rfl hbj1 dX7_record_32 ?_
    obtain ⟨hbj2, h⟩ := xat_inv h
    obtain ⟨S3, eS3, h⟩ := xlet_inv h
    refine g_iast (n := 3360) hX (xvc_7_1 hX.vc hV) (fun _ => rfl) hbj2 dX7_record_33 eS3 ?_
    refine g_iinc (v := (i1 + (1 : Int32))) (lv2 := [(1, .int (i1 + (1 : Int32))), (0, xr K 7 0)]) hX dX7_record_34 1 rfl rfl (by decide) rfl ?_
    refine g_goto hX 11 dX7_record_37 (by decide) ?_
    exact g_sub [1, 0] (by rfl) (hk11 _ _ h)
theorem sf7_record_L11 {K : xK} {X : xX} {out : xR}  (hX : xOK K X RX7 cX7_record 2) (hM : xM K X out none) (hR : xRm X 0 0) (hV : (7, 0) ∈ xvl K)  : ∀ (n : Nat) (S : xSt) (i1 : Int32) (h : f7_record_L11   n S i1 = some out), xG K X S 11 [(0, xr K 7 0), (1, .int i1)] [] := by
  intro n
  induction n with
  | zero => intro S i1 h; cases h
  | succ n ih => intro S i1 h; exact sb7_record_L11 hX hM hR hV  ih h
set_option maxRecDepth 100000 in
theorem c7_record {l : Launch} {K : xK}  (hvc : xVC (xvl K)) (hV : (7, 0) ∈ xvl K) {S : xSt}  {out : xR} (h : f7_record S   = some out) : xMet l K yX7_record cX7_record 2 none 0 0 S [xr K 7 0] out := by
  refine xMet_of RX7 (by decide +kernel) rfl hvc (Nat.le_of_ble_eq_true rfl) ?_
  intro X hX hM hR
  show xG K X S 0 [(0, xr K 7 0)] []
  unfold f7_record at h
  refine g_aload_n hX dX7_record_0 rfl 0 rfl ?_
  refine g_getI hX hV xf7_67 dX7_record_1 ?_
  refine g_bipush (v := (6 : Int32)) hX dX7_record_4 (by decide) ?_
  refine g_icmp_ne hX 45 dX7_record_6 (by decide) (fun hc => ?_) (fun hc => ?_)
  · have h := xif_f hc h
    exact sf7_record_J45 hX hM hR hV h
  · have h := xif_t hc h
    refine g_iconst (v := (0 : Int32)) hX dX7_record_9 (by decide) ?_
    refine g_istore_n (lv2 := [(1, .int (0 : Int32)), (0, xr K 7 0)]) hX dX7_record_10 rfl (by decide) rfl ?_
    exact g_sub [1, 0] (by rfl) (sf7_record_L11 hX hM hR hV _ _ _ h)
set_option maxRecDepth 100000 in
theorem sb7_mend_L4 {K : xK} {X : xX} {out : xR}  (hX : xOK K X RX7 cX7_mend 2) (hM : xM K X out none) (hR : xRm X 0 0) (hV : (7, 0) ∈ xvl K)  {k4 : xSt → Int32 → Option xR} (hk4 : ∀ (S : xSt) (i1 : Int32), k4 S i1 = some out → xG K X S 4 [(0, xr K 7 0), (1, .int i1)] []) {S : xSt} {i1 : Int32} (h : b7_mend_L4   k4 S i1 = some out) : xG K X S 4 [(0, xr K 7 0), (1, .int i1)] [] := by
  unfold b7_mend_L4 at h
  refine g_iload_n hX dX7_mend_4 rfl 1 rfl ?_
  refine g_sipush (v := (560 : Int32)) hX dX7_mend_5 (by decide) ?_
  refine g_icmp_ge hX 24 dX7_mend_8 (by decide) (fun hc => ?_) (fun hc => ?_)
  · have h := xif_t hc h
    exact g_vret hX hM (Option.some.inj h) dX7_mend_24
  · have h := xif_f hc h
    refine g_aload_n hX dX7_mend_11 rfl 0 rfl ?_
    refine g_getR hX hV (xf7_7 _) dX7_mend_12 ?_
    refine g_iload_n hX dX7_mend_15 rfl 1 rfl ?_
    refine g_iconst (v := (0 : Int32)) hX dX7_mend_16 (by decide) ?_
    obtain ⟨hbj1, h⟩ := xat_inv h
    obtain ⟨S2, eS2, h⟩ := xlet_inv h
    refine g_iast (n := 560) hX (xvc_7_0 hX.vc hV) (fun _ => rfl) hbj1 dX7_mend_17 eS2 ?_
    refine g_iinc (v := (i1 + (1 : Int32))) (lv2 := [(1, .int (i1 + (1 : Int32))), (0, xr K 7 0)]) hX dX7_mend_18 1 rfl rfl (by decide) rfl ?_
    refine g_goto hX 4 dX7_mend_21 (by decide) ?_
    exact g_sub [1, 0] (by rfl) (hk4 _ _ h)
theorem sf7_mend_L4 {K : xK} {X : xX} {out : xR}  (hX : xOK K X RX7 cX7_mend 2) (hM : xM K X out none) (hR : xRm X 0 0) (hV : (7, 0) ∈ xvl K)  : ∀ (n : Nat) (S : xSt) (i1 : Int32) (h : f7_mend_L4   n S i1 = some out), xG K X S 4 [(0, xr K 7 0), (1, .int i1)] [] := by
  intro n
  induction n with
  | zero => intro S i1 h; cases h
  | succ n ih => intro S i1 h; exact sb7_mend_L4 hX hM hR hV  ih h
set_option maxRecDepth 100000 in
theorem c7_mend {l : Launch} {K : xK}  (hvc : xVC (xvl K)) (hV : (7, 0) ∈ xvl K) {S : xSt}  {out : xR} (h : f7_mend S   = some out) : xMet l K yX7_mend cX7_mend 2 none 0 0 S [xr K 7 0] out := by
  refine xMet_of RX7 (by decide +kernel) rfl hvc (Nat.le_of_ble_eq_true rfl) ?_
  intro X hX hM hR
  show xG K X S 0 [(0, xr K 7 0)] []
  unfold f7_mend at h
  refine g_sipush (v := (250 : Int32)) hX dX7_mend_0 (by decide) ?_
  refine g_istore_n (lv2 := [(1, .int (250 : Int32)), (0, xr K 7 0)]) hX dX7_mend_3 rfl (by decide) rfl ?_
  exact g_sub [1, 0] (by rfl) (sf7_mend_L4 hX hM hR hV _ _ _ h)
set_option maxRecDepth 100000 in
theorem c7_isSetting {l : Launch} {K : xK}  (hvc : xVC (xvl K))  {S : xSt} {a0 : Int32} {a1 : Int32} {out : xR} (h : f7_isSetting S  a0 a1 = some out) : xMet l K yX7_isSetting cX7_isSetting 2 (some .boolean) 1 22 S [.int a0, .int a1] out := by
  refine xMet_of RX7 (by decide +kernel) rfl hvc (Nat.le_of_ble_eq_true rfl) ?_
  intro X hX hM hR
  show xG K X S 0 [(0, .int a0), (1, .int a1)] []
  unfold f7_isSetting at h
  refine g_iload_n hX dX7_isSetting_0 rfl 0 rfl ?_
  refine g_if_ne hX 14 dX7_isSetting_1 (by decide) (fun hc => ?_) (fun hc => ?_)
  · have h := xif_f hc h
    refine g_iload_n hX dX7_isSetting_14 rfl 0 rfl ?_
    refine g_iconst (v := (1 : Int32)) hX dX7_isSetting_15 (by decide) ?_
    refine g_icmp_ne hX 28 dX7_isSetting_16 (by decide) (fun hc => ?_) (fun hc => ?_)
    · have h := xif_f hc h
      refine g_iload_n hX dX7_isSetting_28 rfl 0 rfl ?_
      refine g_iconst (v := (2 : Int32)) hX dX7_isSetting_29 (by decide) ?_
      refine g_icmp_ne hX 47 dX7_isSetting_30 (by decide) (fun hc => ?_) (fun hc => ?_)
      · have h := xif_f hc h
        refine g_iconst (v := (0 : Int32)) hX dX7_isSetting_47 (by decide) ?_
        obtain ⟨hz, h⟩ := xne_inv h
        exact g_zret hX hM hz (Option.some.inj h) dX7_isSetting_48
      · have h := xif_t hc h
        refine g_iload_n hX dX7_isSetting_33 rfl 1 rfl ?_
        refine g_iconst (v := (4 : Int32)) hX dX7_isSetting_34 (by decide) ?_
        refine g_bipush (v := (32 : Int32)) hX dX7_isSetting_35 (by decide) ?_
        obtain ⟨S1, r2, hcS1, h⟩ := xbI_inv h
        refine g_callS hX hR (fun l => c7_in (l := l) hX.vc hcS1) xc7_71 rfl ⟨by decide, by decide⟩ rfl rfl (Nat.le_of_ble_eq_true rfl) dX7_isSetting_37 ?_
        refine g_if_eq hX 47 dX7_isSetting_40 (by decide) (fun hc => ?_) (fun hc => ?_)
        · have h := xif_t hc h
          refine g_iconst (v := (0 : Int32)) hX dX7_isSetting_47 (by decide) ?_
          obtain ⟨hz, h⟩ := xne_inv h
          exact g_zret hX hM hz (Option.some.inj h) dX7_isSetting_48
        · have h := xif_f hc h
          refine g_iconst (v := (1 : Int32)) hX dX7_isSetting_43 (by decide) ?_
          refine g_goto hX 48 dX7_isSetting_44 (by decide) ?_
          obtain ⟨hz, h⟩ := xne_inv h
          exact g_zret hX hM hz (Option.some.inj h) dX7_isSetting_48
    · have h := xif_t hc h
      refine g_iload_n hX dX7_isSetting_19 rfl 1 rfl ?_
      refine g_iconst (v := (0 : Int32)) hX dX7_isSetting_20 (by decide) ?_
      refine g_iconst (v := (2 : Int32)) hX dX7_isSetting_21 (by decide) ?_
      obtain ⟨S3, r4, hcS3, h⟩ := xbI_inv h
      refine g_callS hX hR (fun l => c7_in (l := l) hX.vc hcS3) xc7_71 rfl ⟨by decide, by decide⟩ rfl rfl (Nat.le_of_ble_eq_true rfl) dX7_isSetting_22 ?_
      refine g_goto hX 48 dX7_isSetting_25 (by decide) ?_
      obtain ⟨hz, h⟩ := xne_inv h
      exact g_zret hX hM hz (Option.some.inj h) dX7_isSetting_48
  · have h := xif_t hc h
    refine g_iload_n hX dX7_isSetting_4 rfl 1 rfl ?_
    refine g_iconst (v := (4 : Int32)) hX dX7_isSetting_5 (by decide) ?_
    refine g_bipush (v := (9 : Int32)) hX dX7_isSetting_6 (by decide) ?_
    obtain ⟨S5, r6, hcS5, h⟩ := xbI_inv h
    refine g_callS hX hR (fun l => c7_in (l := l) hX.vc hcS5) xc7_71 rfl ⟨by decide, by decide⟩ rfl rfl (Nat.le_of_ble_eq_true rfl) dX7_isSetting_8 ?_
    refine g_goto hX 48 dX7_isSetting_11 (by decide) ?_
    obtain ⟨hz, h⟩ := xne_inv h
    exact g_zret hX hM hz (Option.some.inj h) dX7_isSetting_48
set_option maxRecDepth 100000 in
theorem c7_set {l : Launch} {K : xK}  (hvc : xVC (xvl K)) (hV : (7, 0) ∈ xvl K) {S : xSt} {a1 : Int32} {a2 : Int32} {out : xR} (h : f7_set S  a1 a2 = some out) : xMet l K yX7_set cX7_set 4 (some .int) 2 43 S [xr K 7 0, .int a1, .int a2] out := by
  refine xMet_of RX7 (by decide +kernel) rfl hvc (Nat.le_of_ble_eq_true rfl) ?_
  intro X hX hM hR
  show xG K X S 0 [(0, xr K 7 0), (1, .int a1), (2, .int a2)] []
  unfold f7_set at h
  refine g_iload_n hX dX7_set_0 rfl 1 rfl ?_
  refine g_iload_n hX dX7_set_1 rfl 2 rfl ?_
  obtain ⟨S1, r2, hcS1, h⟩ := xbI_inv h
  refine g_callS hX hR (fun l => c7_isSetting (l := l) hX.vc hcS1) xc7_75 rfl ⟨by decide, by decide⟩ rfl rfl (Nat.le_of_ble_eq_true rfl) dX7_set_2 ?_
  refine g_if_ne hX 11 dX7_set_5 (by decide) (fun hc => ?_) (fun hc => ?_)
  · have h := xif_f hc h
    refine g_aload_n hX dX7_set_11 rfl 0 rfl ?_
    obtain ⟨S3, hcS3, h⟩ := xbV_inv h
    refine g_callV hX hR hV (fun l => c7_record (l := l) hX.vc hV hcS3) xc7_79 rfl ⟨by decide, by decide⟩ rfl rfl (Nat.le_of_ble_eq_true rfl) dX7_set_12 ?_
    refine g_aload_n hX dX7_set_15 rfl 0 rfl ?_
    refine g_getR hX hV (xf7_7 _) dX7_set_16 ?_
    refine g_iload_n hX dX7_set_19 rfl 1 rfl ?_
    obtain ⟨hbj4, h⟩ := xat_inv h
    refine g_iald (n := 560) hX (xvc_7_0 hX.vc hV) rfl hbj4 dX7_set_20 ?_
    refine g_istore_n (lv2 := [(3, .int (S3 33 0 (a1).toNatClampNeg)), (0, xr K 7 0), (1, .int a1), (2, .int a2)]) hX dX7_set_21 rfl (by decide) rfl ?_
    refine g_aload_n hX dX7_set_22 rfl 1 rfl ?_
    refine g_getR hX hV (xf7_7 _) dX7_set_23 ?_
    refine g_iload_n hX dX7_set_26 rfl 2 rfl ?_
    refine g_iload_n hX dX7_set_27 rfl 3 rfl ?_
    obtain ⟨hbj5, h⟩ := xat_inv h
    obtain ⟨S6, eS6, h⟩ := xlet_inv h
    refine g_iast (n := 560) hX (xvc_7_0 hX.vc hV) (fun _ => rfl) hbj5 dX7_set_28 eS6 ?_
    refine g_aload_n hX dX7_set_29 rfl 1 rfl ?_
    obtain ⟨S7, hcS7, h⟩ := xbV_inv h
    refine g_callV hX hR hV (fun l => c7_mend (l := l) hX.vc hV hcS7) xc7_82 rfl ⟨by decide, by decide⟩ rfl rfl (Nat.le_of_ble_eq_true rfl) dX7_set_30 ?_
    refine g_iload_n hX dX7_set_33 rfl 0 rfl ?_
    exact g_iret hX hM (Option.some.inj h) dX7_set_34
  · have h := xif_t hc h
    refine g_bipush (v := (-2 : Int32)) hX dX7_set_8 (by decide) ?_
    exact g_iret hX hM (Option.some.inj h) dX7_set_10
set_option maxRecDepth 100000 in
theorem sf7_add_J75 {K : xK} {X : xX} {out : xR}  (hX : xOK K X RX7 cX7_add 4) (hM : xM K X out (some .int)) (hR : xRm X 1 22) (hV : (7, 0) ∈ xvl K)  {S : xSt} {i2 : Int32} (h : f7_add_J75   S i2 = some out) : xG K X S 75 [(0, xr K 7 0), (2, .int i2)] [] := by
  unfold f7_add_J75 at h
  refine g_aload_n hX dX7_add_75 rfl 0 rfl ?_
  refine g_getR hX hV (xf7_7 _) dX7_add_76 ?_
  refine g_iconst (v := (3 : Int32)) hX dX7_add_79 (by decide) ?_
  refine g_dup2 hX dX7_add_80 rfl rfl ?_
  obtain ⟨hbj1, h⟩ := xat_inv h
  refine g_iald (n := 560) hX (xvc_7_0 hX.vc hV) rfl hbj1 dX7_add_81 ?_
  refine g_iload_n hX dX7_add_82 rfl 1 rfl ?_
  refine g_iadd hX dX7_add_83 ?_
  obtain ⟨hbj2, h⟩ := xat_inv h
  obtain ⟨S3, eS3, h⟩ := xlet_inv h
  refine g_iast (n := 560) hX (xvc_7_0 hX.vc hV) (fun _ => rfl) hbj2 dX7_add_84 eS3 ?_
  refine g_aload_n hX dX7_add_85 rfl 0 rfl ?_
  obtain ⟨S4, hcS4, h⟩ := xbV_inv h
  refine g_callV hX hR hV (fun l => c7_mend (l := l) hX.vc hV hcS4) xc7_82 rfl ⟨by decide, by decide⟩ rfl rfl (Nat.le_of_ble_eq_true rfl) dX7_add_86 ?_
  refine g_aload_n hX dX7_add_89 rfl 0 rfl ?_
  refine g_getR hX hV (xf7_7 _) dX7_add_90 ?_
  refine g_iconst (v := (3 : Int32)) hX dX7_add_93 (by decide) ?_
  obtain ⟨hbj5, h⟩ := xat_inv h
  refine g_iald (n := 560) hX (xvc_7_0 hX.vc hV) rfl hbj5 dX7_add_94 ?_
  exact g_iret hX hM (Option.some.inj h) dX7_add_95
set_option maxRecDepth 100000 in
theorem sb7_add_L47 {K : xK} {X : xX} {out : xR}  (hX : xOK K X RX7 cX7_add 4) (hM : xM K X out (some .int)) (hR : xRm X 1 22) (hV : (7, 0) ∈ xvl K)  {k47 : xSt → Int32 → Int32 → Int32 → Option xR} (hk47 : ∀ (S : xSt) (i1 : Int32) (i2 : Int32) (i3 : Int32), k47 S i1 i2 i3 = some out → xG K X S 47 [(0, xr K 7 0), (1, .int i1), (2, .int i2), (3, .int i3)] []) {S : xSt} {i1 : Int32} {i2 : Int32} {i3 : Int32} (h : b7_add_L47   k47 S i1 i2 i3 = some out) : xG K X S 47 [(0, xr K 7 0), (1, .int i1), (2, .int i2), (3, .int i3)] [] := by
  unfold b7_add_L47 at h
  refine g_iload_n hX dX7_add_47 rfl 3 rfl ?_
  refine g_iload_n hX dX7_add_48 rfl 2 rfl ?_
  refine g_icmp_ge hX 75 dX7_add_49 (by decide) (fun hc => ?_) (fun hc => ?_)
  · have h := xif_t hc h
    exact g_sub [0, 2] (by rfl) (sf7_add_J75 hX hM hR hV h)
  · have h := xif_f hc h
    refine g_aload_n hX dX7_add_52 rfl 0 rfl ?_
    refine g_getR hX hV (xf7_7 _) dX7_add_53 ?_
    refine g_bipush (v := (10 : Int32)) hX dX7_add_56 (by decide) ?_
    refine g_aload_n hX dX7_add_58 rfl 0 rfl ?_
    refine g_getR hX hV (xf7_7 _) dX7_add_59 ?_
    refine g_iconst (v := (3 : Int32)) hX dX7_add_62 (by decide) ?_
    obtain ⟨hbj1, h⟩ := xat_inv h
    refine g_iald (n := 560) hX (xvc_7_0 hX.vc hV) rfl hbj1 dX7_add_63 ?_
    refine g_iadd hX dX7_add_64 ?_
    refine g_iload_n hX dX7_add_65 rfl 3 rfl ?_
    refine g_iadd hX dX7_add_66 ?_
    refine g_iload_n hX dX7_add_67 rfl 1 rfl ?_
    obtain ⟨hbj2, h⟩ := xat_inv h
    obtain ⟨S3, eS3, h⟩ := xlet_inv h
    refine g_iast (n := 560) hX (xvc_7_0 hX.vc hV) (fun _ => rfl) hbj2 dX7_add_68 eS3 ?_
    refine g_iinc (v := (i3 + (1 : Int32))) (lv2 := [(3, .int (i3 + (1 : Int32))), (0, xr K 7 0), (1, .int i1), (2, .int i2)]) hX dX7_add_69 3 rfl rfl (by decide) rfl ?_
    refine g_goto hX 47 dX7_add_72 (by decide) ?_
    exact g_sub [1, 2, 3, 0] (by rfl) (hk47 _ _ _ _ h)
theorem sf7_add_L47 {K : xK} {X : xX} {out : xR}  (hX : xOK K X RX7 cX7_add 4) (hM : xM K X out (some .int)) (hR : xRm X 1 22) (hV : (7, 0) ∈ xvl K)  : ∀ (n : Nat) (S : xSt) (i1 : Int32) (i2 : Int32) (i3 : Int32) (h : f7_add_L47   n S i1 i2 i3 = some out), xG K X S 47 [(0, xr K 7 0), (1, .int i1), (2, .int i2), (3, .int i3)] [] := by
  intro n
  induction n with
  | zero => intro S i1 i2 i3 h; cases h
  | succ n ih => intro S i1 i2 i3 h; exact sb7_add_L47 hX hM hR hV  ih h
set_option maxRecDepth 100000 in
theorem c7_add {l : Launch} {K : xK}  (hvc : xVC (xvl K)) (hV : (7, 0) ∈ xvl K) {S : xSt} {a1 : Int32} {a2 : Int32} {out : xR} (h : f7_add S  a1 a2 = some out) : xMet l K yX7_add cX7_add 4 (some .int) 1 22 S [xr K 7 0, .int a1, .int a2] out := by
  refine xMet_of RX7 (by decide +kernel) rfl hvc (Nat.le_of_ble_eq_true rfl) ?_
  intro X hX hM hR
  show xG K X S 0 [(0, xr K 7 0), (1, .int a1), (2, .int a2)] []
  unfold f7_add at h
  refine g_iload_n hX dX7_add_0 rfl 1 rfl ?_
  refine g_iconst (v := (0 : Int32)) hX dX7_add_1 (by decide) ?_
  refine g_bipush (v := (7 : Int32)) hX dX7_add_2 (by decide) ?_
  obtain ⟨S1, r2, hcS1, h⟩ := xbI_inv h
  refine g_callS hX hR (fun l => c7_in (l := l) hX.vc hcS1) xc7_71 rfl ⟨by decide, by decide⟩ rfl rfl (Nat.le_of_ble_eq_true rfl) dX7_add_4 ?_
  refine g_if_eq hX 21 dX7_add_7 (by decide) (fun hc => ?_) (fun hc => ?_)
  · have h := xif_t hc h
    refine g_bipush (v := (-2 : Int32)) hX dX7_add_21 (by decide) ?_
    exact g_iret hX hM (Option.some.inj h) dX7_add_23
  · have h := xif_f hc h
    refine g_iload_n hX dX7_add_10 rfl 2 rfl ?_
    refine g_iconst (v := (1 : Int32)) hX dX7_add_11 (by decide) ?_
    refine g_sipush (v := (240 : Int32)) hX dX7_add_12 (by decide) ?_
    obtain ⟨S3, r4, hcS3, h⟩ := xbI_inv h
    refine g_callS hX hR (fun l => c7_in (l := l) hX.vc hcS3) xc7_71 rfl ⟨by decide, by decide⟩ rfl rfl (Nat.le_of_ble_eq_true rfl) dX7_add_15 ?_
    refine g_if_ne hX 24 dX7_add_18 (by decide) (fun hc => ?_) (fun hc => ?_)
    · have h := xif_f hc h
      refine g_aload_n hX dX7_add_24 rfl 0 rfl ?_
      refine g_getR hX hV (xf7_7 _) dX7_add_25 ?_
      refine g_iconst (v := (3 : Int32)) hX dX7_add_28 (by decide) ?_
      obtain ⟨hbj5, h⟩ := xat_inv h
      refine g_iald (n := 560) hX (xvc_7_0 hX.vc hV) rfl hbj5 dX7_add_29 ?_
      refine g_iload_n hX dX7_add_30 rfl 2 rfl ?_
      refine g_iadd hX dX7_add_31 ?_
      refine g_sipush (v := (240 : Int32)) hX dX7_add_32 (by decide) ?_
      refine g_icmp_le hX 41 dX7_add_35 (by decide) (fun hc => ?_) (fun hc => ?_)
      · have h := xif_t hc h
        refine g_aload_n hX dX7_add_41 rfl 0 rfl ?_
        obtain ⟨S6, hcS6, h⟩ := xbV_inv h
        refine g_callV hX hR hV (fun l => c7_record (l := l) hX.vc hV hcS6) xc7_79 rfl ⟨by decide, by decide⟩ rfl rfl (Nat.le_of_ble_eq_true rfl) dX7_add_42 ?_
        refine g_iconst (v := (0 : Int32)) hX dX7_add_45 (by decide) ?_
        refine g_istore_n (lv2 := [(3, .int (0 : Int32)), (0, xr K 7 0), (1, .int a1), (2, .int a2)]) hX dX7_add_46 rfl (by decide) rfl ?_
        exact g_sub [1, 2, 3, 0] (by rfl) (sf7_add_L47 hX hM hR hV _ _ _ _ _ h)
      · have h := xif_f hc h
        refine g_bipush (v := (-4 : Int32)) hX dX7_add_38 (by decide) ?_
        exact g_iret hX hM (Option.some.inj h) dX7_add_40
    · have h := xif_t hc h
      refine g_bipush (v := (-2 : Int32)) hX dX7_add_21 (by decide) ?_
      exact g_iret hX hM (Option.some.inj h) dX7_add_23
set_option maxRecDepth 100000 in
theorem c7_cut {l : Launch} {K : xK}  (hvc : xVC (xvl K)) (hV : (7, 0) ∈ xvl K) {S : xSt} {a1 : Int32} {out : xR} (h : f7_cut S  a1 = some out) : xMet l K yX7_cut cX7_cut 2 (some .int) 1 22 S [xr K 7 0, .int a1] out := by
  refine xMet_of RX7 (by decide +kernel) rfl hvc (Nat.le_of_ble_eq_true rfl) ?_
  intro X hX hM hR
  show xG K X S 0 [(0, xr K 7 0), (1, .int a1)] []
  unfold f7_cut at h
  refine g_iload_n hX dX7_cut_0 rfl 1 rfl ?_
  refine g_iconst (v := (1 : Int32)) hX dX7_cut_1 (by decide) ?_
  refine g_sipush (v := (240 : Int32)) hX dX7_cut_2 (by decide) ?_
  obtain ⟨S1, r2, hcS1, h⟩ := xbI_inv h
  refine g_callS hX hR (fun l => c7_in (l := l) hX.vc hcS1) xc7_71 rfl ⟨by decide, by decide⟩ rfl rfl (Nat.le_of_ble_eq_true rfl) dX7_cut_5 ?_
  refine g_if_ne hX 14 dX7_cut_8 (by decide) (fun hc => ?_) (fun hc => ?_)
  · have h := xif_f hc h
    refine g_iload_n hX dX7_cut_14 rfl 1 rfl ?_
    refine g_aload_n hX dX7_cut_15 rfl 0 rfl ?_
    refine g_getR hX hV (xf7_7 _) dX7_cut_16 ?_
    refine g_iconst (v := (3 : Int32)) hX dX7_cut_19 (by decide) ?_
    obtain ⟨hbj3, h⟩ := xat_inv h
    refine g_iald (n := 560) hX (xvc_7_0 hX.vc hV) rfl hbj3 dX7_cut_20 ?_
    refine g_icmp_le hX 27 dX7_cut_21 (by decide) (fun hc => ?_) (fun hc => ?_)
    · have h := xif_t hc h
      refine g_aload_n hX dX7_cut_27 rfl 0 rfl ?_
      obtain ⟨S4, hcS4, h⟩ := xbV_inv h
      refine g_callV hX hR hV (fun l => c7_record (l := l) hX.vc hV hcS4) xc7_79 rfl ⟨by decide, by decide⟩ rfl rfl (Nat.le_of_ble_eq_true rfl) dX7_cut_28 ?_
      refine g_aload_n hX dX7_cut_31 rfl 0 rfl ?_
      refine g_getR hX hV (xf7_7 _) dX7_cut_32 ?_
      refine g_iconst (v := (3 : Int32)) hX dX7_cut_35 (by decide) ?_
      refine g_dup2 hX dX7_cut_36 rfl rfl ?_
      obtain ⟨hbj5, h⟩ := xat_inv h
      refine g_iald (n := 560) hX (xvc_7_0 hX.vc hV) rfl hbj5 dX7_cut_37 ?_
      refine g_iload_n hX dX7_cut_38 rfl 1 rfl ?_
      refine g_isub hX dX7_cut_39 ?_
      obtain ⟨hbj6, h⟩ := xat_inv h
      obtain ⟨S7, eS7, h⟩ := xlet_inv h
      refine g_iast (n := 560) hX (xvc_7_0 hX.vc hV) (fun _ => rfl) hbj6 dX7_cut_40 eS7 ?_
      refine g_aload_n hX dX7_cut_41 rfl 0 rfl ?_
      obtain ⟨S8, hcS8, h⟩ := xbV_inv h
      refine g_callV hX hR hV (fun l => c7_mend (l := l) hX.vc hV hcS8) xc7_82 rfl ⟨by decide, by decide⟩ rfl rfl (Nat.le_of_ble_eq_true rfl) dX7_cut_42 ?_
      refine g_aload_n hX dX7_cut_45 rfl 0 rfl ?_
      refine g_getR hX hV (xf7_7 _) dX7_cut_46 ?_
      refine g_iconst (v := (3 : Int32)) hX dX7_cut_49 (by decide) ?_
      obtain ⟨hbj9, h⟩ := xat_inv h
      refine g_iald (n := 560) hX (xvc_7_0 hX.vc hV) rfl hbj9 dX7_cut_50 ?_
      exact g_iret hX hM (Option.some.inj h) dX7_cut_51
    · have h := xif_f hc h
      refine g_bipush (v := (-5 : Int32)) hX dX7_cut_24 (by decide) ?_
      exact g_iret hX hM (Option.some.inj h) dX7_cut_26
  · have h := xif_t hc h
    refine g_bipush (v := (-2 : Int32)) hX dX7_cut_11 (by decide) ?_
    exact g_iret hX hM (Option.some.inj h) dX7_cut_13
set_option maxRecDepth 100000 in
theorem sf7_beginBook_J68 {K : xK} {X : xX} {out : xR}  (hX : xOK K X RX7 cX7_beginBook 2) (hM : xM K X out none) (hR : xRm X 0 0) (hV : (7, 0) ∈ xvl K) {k8 : xSt → Int32 → Option xR} (hk8 : ∀ (S : xSt) (i1 : Int32), k8 S i1 = some out → xG K X S 8 [(0, xr K 7 0), (1, .int i1)] []) {S : xSt} {i1 : Int32} {k0 : Int32} {k1 : Int32} (h : f7_beginBook_J68  k8 S i1 k0 k1 = some out) : xG K X S 68 [(0, xr K 7 0), (1, .int i1)] [.int k0, .int k1, xr K 41 0] := by
  unfold f7_beginBook_J68 at h
  obtain ⟨hbj1, h⟩ := xat_inv h
  obtain ⟨S2, eS2, h⟩ := xlet_inv h
  refine g_iast (n := 512) hX (xvc_7_10 hX.vc hV) (fun _ => rfl) hbj1 dX7_beginBook_68 eS2 ?_
  refine g_iinc (v := (i1 + (1 : Int32))) (lv2 := [(1, .int (i1 + (1 : Int32))), (0, xr K 7 0)]) hX dX7_beginBook_69 1 rfl rfl (by decide) rfl ?_
  refine g_goto hX 8 dX7_beginBook_72 (by decide) ?_
  exact g_sub [1, 0] (by rfl) (hk8 _ _ h)
set_option maxRecDepth 100000 in
theorem sf7_beginBook_J39 {K : xK} {X : xX} {out : xR}  (hX : xOK K X RX7 cX7_beginBook 2) (hM : xM K X out none) (hR : xRm X 0 0) (hV : (7, 0) ∈ xvl K) {k8 : xSt → Int32 → Option xR} (hk8 : ∀ (S : xSt) (i1 : Int32), k8 S i1 = some out → xG K X S 8 [(0, xr K 7 0), (1, .int i1)] []) {S : xSt} {i1 : Int32} {k0 : Int32} {k1 : Int32} (h : f7_beginBook_J39  k8 S i1 k0 k1 = some out) : xG K X S 39 [(0, xr K 7 0), (1, .int i1)] [.int k0, .int k1, xr K 39 0] := by
  unfold f7_beginBook_J39 at h
  obtain ⟨hbj1, h⟩ := xat_inv h
  obtain ⟨S2, eS2, h⟩ := xlet_inv h
  refine g_iast (n := 512) hX (xvc_7_8 hX.vc hV) (fun _ => rfl) hbj1 dX7_beginBook_39 eS2 ?_
  refine g_aload_n hX dX7_beginBook_40 rfl 0 rfl ?_
  refine g_getR hX hV (xf7_32 _) dX7_beginBook_41 ?_
  refine g_iload_n hX dX7_beginBook_44 rfl 1 rfl ?_
  refine g_aload_n hX dX7_beginBook_45 rfl 0 rfl ?_
  refine g_getR hX hV (xf7_29 _) dX7_beginBook_46 ?_
  refine g_iload_n hX dX7_beginBook_49 rfl 1 rfl ?_
  obtain ⟨hbj3, h⟩ := xat_inv h
  refine g_iald (n := 512) hX (xvc_7_8 hX.vc hV) rfl hbj3 dX7_beginBook_50 ?_
  obtain ⟨hbj4, h⟩ := xat_inv h
  obtain ⟨S5, eS5, h⟩ := xlet_inv h
  refine g_iast (n := 512) hX (xvc_7_9 hX.vc hV) (fun _ => rfl) hbj4 dX7_beginBook_51 eS5 ?_
  refine g_aload_n hX dX7_beginBook_52 rfl 0 rfl ?_
  refine g_getR hX hV (xf7_35 _) dX7_beginBook_53 ?_
  refine g_iload_n hX dX7_beginBook_56 rfl 1 rfl ?_
  refine g_iload_n hX dX7_beginBook_57 rfl 1 rfl ?_
  refine g_bipush (v := (8 : Int32)) hX dX7_beginBook_58 (by decide) ?_
  refine g_icmp_ge hX 67 dX7_beginBook_60 (by decide) (fun hc => ?_) (fun hc => ?_)
  · have h := xif_t hc h
    refine g_iconst (v := (0 : Int32)) hX dX7_beginBook_67 (by decide) ?_
    exact sf7_beginBook_J68 hX hM hR hV hk8 h
  · have h := xif_f hc h
    refine g_iconst (v := (1 : Int32)) hX dX7_beginBook_63 (by decide) ?_
    refine g_goto hX 68 dX7_beginBook_64 (by decide) ?_
    exact sf7_beginBook_J68 hX hM hR hV hk8 h
set_option maxRecDepth 100000 in
theorem sb7_beginBook_L8 {K : xK} {X : xX} {out : xR}  (hX : xOK K X RX7 cX7_beginBook 2) (hM : xM K X out none) (hR : xRm X 0 0) (hV : (7, 0) ∈ xvl K)  {k8 : xSt → Int32 → Option xR} (hk8 : ∀ (S : xSt) (i1 : Int32), k8 S i1 = some out → xG K X S 8 [(0, xr K 7 0), (1, .int i1)] []) {S : xSt} {i1 : Int32} (h : b7_beginBook_L8   k8 S i1 = some out) : xG K X S 8 [(0, xr K 7 0), (1, .int i1)] [] := by
  unfold b7_beginBook_L8 at h
  refine g_iload_n hX dX7_beginBook_8 rfl 1 rfl ?_
  refine g_bipush (v := (10 : Int32)) hX dX7_beginBook_9 (by decide) ?_
  refine g_icmp_ge hX 75 dX7_beginBook_11 (by decide) (fun hc => ?_) (fun hc => ?_)
  · have h := xif_t hc h
    exact g_vret hX hM (Option.some.inj h) dX7_beginBook_75
  · have h := xif_f hc h
    refine g_aload_n hX dX7_beginBook_14 rfl 0 rfl ?_
    refine g_getR hX hV (xf7_26 _) dX7_beginBook_15 ?_
    refine g_iload_n hX dX7_beginBook_18 rfl 1 rfl ?_
    refine g_bipush (v := (-6 : Int32)) hX dX7_beginBook_19 (by decide) ?_
    obtain ⟨hbj1, h⟩ := xat_inv h
    obtain ⟨S2, eS2, h⟩ := xlet_inv h
    refine g_iast (n := 512) hX (xvc_7_7 hX.vc hV) (fun _ => rfl) hbj1 dX7_beginBook_21 eS2 ?_
    refine g_aload_n hX dX7_beginBook_22 rfl 0 rfl ?_
    refine g_getR hX hV (xf7_29 _) dX7_beginBook_23 ?_
    refine g_iload_n hX dX7_beginBook_26 rfl 1 rfl ?_
    refine g_iload_n hX dX7_beginBook_27 rfl 1 rfl ?_
    refine g_bipush (v := (8 : Int32)) hX dX7_beginBook_28 (by decide) ?_
    refine g_icmp_ge hX 37 dX7_beginBook_30 (by decide) (fun hc => ?_) (fun hc => ?_)
    · have h := xif_t hc h
      refine g_bipush (v := (-6 : Int32)) hX dX7_beginBook_37 (by decide) ?_
      exact sf7_beginBook_J39 hX hM hR hV hk8 h
    · have h := xif_f hc h
      refine g_iload_n hX dX7_beginBook_33 rfl 1 rfl ?_
      refine g_goto hX 39 dX7_beginBook_34 (by decide) ?_
      exact sf7_beginBook_J39 hX hM hR hV hk8 h
theorem sf7_beginBook_L8 {K : xK} {X : xX} {out : xR}  (hX : xOK K X RX7 cX7_beginBook 2) (hM : xM K X out none) (hR : xRm X 0 0) (hV : (7, 0) ∈ xvl K)  : ∀ (n : Nat) (S : xSt) (i1 : Int32) (h : f7_beginBook_L8   n S i1 = some out), xG K X S 8 [(0, xr K 7 0), (1, .int i1)] [] := by
  intro n
  induction n with
  | zero => intro S i1 h; cases h
  | succ n ih => intro S i1 h; exact sb7_beginBook_L8 hX hM hR hV  ih h
set_option maxRecDepth 100000 in
theorem c7_beginBook {l : Launch} {K : xK}  (hvc : xVC (xvl K)) (hV : (7, 0) ∈ xvl K) {S : xSt}  {out : xR} (h : f7_beginBook S   = some out) : xMet l K yX7_beginBook cX7_beginBook 2 none 0 0 S [xr K 7 0] out := by
  refine xMet_of RX7 (by decide +kernel) rfl hvc (Nat.le_of_ble_eq_true rfl) ?_
  intro X hX hM hR
  show xG K X S 0 [(0, xr K 7 0)] []
  unfold f7_beginBook at h
  refine g_aload_n hX dX7_beginBook_0 rfl 0 rfl ?_
  refine g_bipush (v := (10 : Int32)) hX dX7_beginBook_1 (by decide) ?_
  obtain ⟨S1, eS1, h⟩ := xlet_inv h
  refine g_putI hX hV xf7_85 dX7_beginBook_3 eS1 ?_
  refine g_iconst (v := (0 : Int32)) hX dX7_beginBook_6 (by decide) ?_
  refine g_istore_n (lv2 := [(1, .int (0 : Int32)), (0, xr K 7 0)]) hX dX7_beginBook_7 rfl (by decide) rfl ?_
  exact g_sub [1, 0] (by rfl) (sf7_beginBook_L8 hX hM hR hV _ _ _ h)
set_option maxRecDepth 100000 in
theorem c7_enterPhrase {l : Launch} {K : xK}  (hvc : xVC (xvl K)) (hV : (7, 0) ∈ xvl K) {S : xSt} {a1 : Int32} {a2 : Int32} {out : xR} (h : f7_enterPhrase S  a1 a2 = some out) : xMet l K yX7_enterPhrase cX7_enterPhrase 3 none 0 0 S [xr K 7 0, .int a1, .int a2] out := by
  refine xMet_of RX7 (by decide +kernel) rfl hvc (Nat.le_of_ble_eq_true rfl) ?_
  intro X hX hM hR
  show xG K X S 0 [(0, xr K 7 0), (1, .int a1), (2, .int a2)] []
  unfold f7_enterPhrase at h
  refine g_aload_n hX dX7_enterPhrase_0 rfl 0 rfl ?_
  refine g_getR hX hV (xf7_26 _) dX7_enterPhrase_1 ?_
  refine g_aload_n hX dX7_enterPhrase_4 rfl 0 rfl ?_
  refine g_getI hX hV xf7_85 dX7_enterPhrase_5 ?_
  refine g_iload_n hX dX7_enterPhrase_8 rfl 1 rfl ?_
  obtain ⟨hbj1, h⟩ := xat_inv h
  obtain ⟨S2, eS2, h⟩ := xlet_inv h
  refine g_iast (n := 512) hX (xvc_7_7 hX.vc hV) (fun _ => rfl) hbj1 dX7_enterPhrase_9 eS2 ?_
  refine g_aload_n hX dX7_enterPhrase_10 rfl 0 rfl ?_
  refine g_getR hX hV (xf7_29 _) dX7_enterPhrase_11 ?_
  refine g_aload_n hX dX7_enterPhrase_14 rfl 0 rfl ?_
  refine g_getI hX hV xf7_85 dX7_enterPhrase_15 ?_
  refine g_iload_n hX dX7_enterPhrase_18 rfl 2 rfl ?_
  obtain ⟨hbj3, h⟩ := xat_inv h
  obtain ⟨S4, eS4, h⟩ := xlet_inv h
  refine g_iast (n := 512) hX (xvc_7_8 hX.vc hV) (fun _ => rfl) hbj3 dX7_enterPhrase_19 eS4 ?_
  refine g_aload_n hX dX7_enterPhrase_20 rfl 0 rfl ?_
  refine g_getR hX hV (xf7_32 _) dX7_enterPhrase_21 ?_
  refine g_aload_n hX dX7_enterPhrase_24 rfl 0 rfl ?_
  refine g_getI hX hV xf7_85 dX7_enterPhrase_25 ?_
  refine g_aload_n hX dX7_enterPhrase_28 rfl 0 rfl ?_
  refine g_getR hX hV (xf7_32 _) dX7_enterPhrase_29 ?_
  refine g_iload_n hX dX7_enterPhrase_32 rfl 1 rfl ?_
  obtain ⟨hbj5, h⟩ := xat_inv h
  refine g_iald (n := 512) hX (xvc_7_9 hX.vc hV) rfl hbj5 dX7_enterPhrase_33 ?_
  obtain ⟨hbj6, h⟩ := xat_inv h
  obtain ⟨S7, eS7, h⟩ := xlet_inv h
  refine g_iast (n := 512) hX (xvc_7_9 hX.vc hV) (fun _ => rfl) hbj6 dX7_enterPhrase_34 eS7 ?_
  refine g_aload_n hX dX7_enterPhrase_35 rfl 0 rfl ?_
  refine g_getR hX hV (xf7_35 _) dX7_enterPhrase_36 ?_
  refine g_aload_n hX dX7_enterPhrase_39 rfl 0 rfl ?_
  refine g_getI hX hV xf7_85 dX7_enterPhrase_40 ?_
  refine g_aload_n hX dX7_enterPhrase_43 rfl 0 rfl ?_
  refine g_getR hX hV (xf7_35 _) dX7_enterPhrase_44 ?_
  refine g_iload_n hX dX7_enterPhrase_47 rfl 1 rfl ?_
  obtain ⟨hbj8, h⟩ := xat_inv h
  refine g_iald (n := 512) hX (xvc_7_10 hX.vc hV) rfl hbj8 dX7_enterPhrase_48 ?_
  refine g_iconst (v := (1 : Int32)) hX dX7_enterPhrase_49 (by decide) ?_
  refine g_iadd hX dX7_enterPhrase_50 ?_
  obtain ⟨hbj9, h⟩ := xat_inv h
  obtain ⟨S10, eS10, h⟩ := xlet_inv h
  refine g_iast (n := 512) hX (xvc_7_10 hX.vc hV) (fun _ => rfl) hbj9 dX7_enterPhrase_51 eS10 ?_
  refine g_aload_n hX dX7_enterPhrase_52 rfl 0 rfl ?_
  refine g_dup hX dX7_enterPhrase_53 rfl ?_
  refine g_getI hX hV xf7_85 dX7_enterPhrase_54 ?_
  refine g_iconst (v := (1 : Int32)) hX dX7_enterPhrase_57 (by decide) ?_
  refine g_iadd hX dX7_enterPhrase_58 ?_
  obtain ⟨S11, eS11, h⟩ := xlet_inv h
  refine g_putI hX hV xf7_85 dX7_enterPhrase_59 eS11 ?_
  exact g_vret hX hM (Option.some.inj h) dX7_enterPhrase_62
set_option maxRecDepth 100000 in
theorem sf7_longer_J33 {K : xK} {X : xX} {out : xR}  (hX : xOK K X RX7 cX7_longer 4) (hM : xM K X out (some .int)) (hR : xRm X 0 0) (hV : (7, 0) ∈ xvl K) {k3 : xSt → Int32 → Int32 → Int32 → Option xR} (hk3 : ∀ (S : xSt) (i1 : Int32) (i2 : Int32) (i3 : Int32), k3 S i1 i2 i3 = some out → xG K X S 3 [(0, xr K 7 0), (1, .int i1), (2, .int i2), (3, .int i3)] []) {S : xSt} {i1 : Int32} {i2 : Int32} {i3 : Int32} (h : f7_longer_J33  k3 S i1 i2 i3 = some out) : xG K X S 33 [(0, xr K 7 0), (1, .int i1), (2, .int i2), (3, .int i3)] [] := by
  unfold f7_longer_J33 at h
  refine g_iinc (v := (i3 + (1 : Int32))) (lv2 := [(3, .int (i3 + (1 : Int32))), (0, xr K 7 0), (1, .int i1), (2, .int i2)]) hX dX7_longer_33 3 rfl rfl (by decide) rfl ?_
  refine g_goto hX 3 dX7_longer_36 (by decide) ?_
  exact g_sub [1, 2, 3, 0] (by rfl) (hk3 _ _ _ _ h)
set_option maxRecDepth 100000 in
theorem sb7_longer_L3 {K : xK} {X : xX} {out : xR}  (hX : xOK K X RX7 cX7_longer 4) (hM : xM K X out (some .int)) (hR : xRm X 0 0) (hV : (7, 0) ∈ xvl K)  {k3 : xSt → Int32 → Int32 → Int32 → Option xR} (hk3 : ∀ (S : xSt) (i1 : Int32) (i2 : Int32) (i3 : Int32), k3 S i1 i2 i3 = some out → xG K X S 3 [(0, xr K 7 0), (1, .int i1), (2, .int i2), (3, .int i3)] []) {S : xSt} {i1 : Int32} {i2 : Int32} {i3 : Int32} (h : b7_longer_L3   k3 S i1 i2 i3 = some out) : xG K X S 3 [(0, xr K 7 0), (1, .int i1), (2, .int i2), (3, .int i3)] [] := by
  unfold b7_longer_L3 at h
  refine g_iload_n hX dX7_longer_3 rfl 3 rfl ?_
  refine g_aload_n hX dX7_longer_4 rfl 0 rfl ?_
  refine g_getI hX hV xf7_85 dX7_longer_5 ?_
  refine g_icmp_ge hX 39 dX7_longer_8 (by decide) (fun hc => ?_) (fun hc => ?_)
  · have h := xif_t hc h
    refine g_bipush (v := (-6 : Int32)) hX dX7_longer_39 (by decide) ?_
    exact g_iret hX hM (Option.some.inj h) dX7_longer_41
  · have h := xif_f hc h
    refine g_aload_n hX dX7_longer_11 rfl 0 rfl ?_
    refine g_getR hX hV (xf7_26 _) dX7_longer_12 ?_
    refine g_iload_n hX dX7_longer_15 rfl 3 rfl ?_
    obtain ⟨hbj1, h⟩ := xat_inv h
    refine g_iald (n := 512) hX (xvc_7_7 hX.vc hV) rfl hbj1 dX7_longer_16 ?_
    refine g_iload_n hX dX7_longer_17 rfl 1 rfl ?_
    refine g_icmp_ne hX 33 dX7_longer_18 (by decide) (fun hc => ?_) (fun hc => ?_)
    · have h := xif_f hc h
      exact sf7_longer_J33 hX hM hR hV hk3 h
    · have h := xif_t hc h
      refine g_aload_n hX dX7_longer_21 rfl 0 rfl ?_
      refine g_getR hX hV (xf7_29 _) dX7_longer_22 ?_
      refine g_iload_n hX dX7_longer_25 rfl 3 rfl ?_
      obtain ⟨hbj2, h⟩ := xat_inv h
      refine g_iald (n := 512) hX (xvc_7_8 hX.vc hV) rfl hbj2 dX7_longer_26 ?_
      refine g_iload_n hX dX7_longer_27 rfl 2 rfl ?_
      refine g_icmp_ne hX 33 dX7_longer_28 (by decide) (fun hc => ?_) (fun hc => ?_)
      · have h := xif_f hc h
        exact sf7_longer_J33 hX hM hR hV hk3 h
      · have h := xif_t hc h
        refine g_iload_n hX dX7_longer_31 rfl 3 rfl ?_
        exact g_iret hX hM (Option.some.inj h) dX7_longer_32
theorem sf7_longer_L3 {K : xK} {X : xX} {out : xR}  (hX : xOK K X RX7 cX7_longer 4) (hM : xM K X out (some .int)) (hR : xRm X 0 0) (hV : (7, 0) ∈ xvl K)  : ∀ (n : Nat) (S : xSt) (i1 : Int32) (i2 : Int32) (i3 : Int32) (h : f7_longer_L3   n S i1 i2 i3 = some out), xG K X S 3 [(0, xr K 7 0), (1, .int i1), (2, .int i2), (3, .int i3)] [] := by
  intro n
  induction n with
  | zero => intro S i1 i2 i3 h; cases h
  | succ n ih => intro S i1 i2 i3 h; exact sb7_longer_L3 hX hM hR hV  ih h
set_option maxRecDepth 100000 in
theorem c7_longer {l : Launch} {K : xK}  (hvc : xVC (xvl K)) (hV : (7, 0) ∈ xvl K) {S : xSt} {a1 : Int32} {a2 : Int32} {out : xR} (h : f7_longer S  a1 a2 = some out) : xMet l K yX7_longer cX7_longer 4 (some .int) 0 0 S [xr K 7 0, .int a1, .int a2] out := by
  refine xMet_of RX7 (by decide +kernel) rfl hvc (Nat.le_of_ble_eq_true rfl) ?_
  intro X hX hM hR
  show xG K X S 0 [(0, xr K 7 0), (1, .int a1), (2, .int a2)] []
  unfold f7_longer at h
  refine g_bipush (v := (10 : Int32)) hX dX7_longer_0 (by decide) ?_
  refine g_istore_n (lv2 := [(3, .int (10 : Int32)), (0, xr K 7 0), (1, .int a1), (2, .int a2)]) hX dX7_longer_2 rfl (by decide) rfl ?_
  exact g_sub [1, 2, 3, 0] (by rfl) (sf7_longer_L3 hX hM hR hV _ _ _ _ _ h)
set_option maxRecDepth 100000 in
theorem sf7_writeCode_J21 {K : xK} {X : xX} {out : xR}  (hX : xOK K X RX7 cX7_writeCode 5) (hM : xM K X out none) (hR : xRm X 0 0) (hV : (7, 0) ∈ xvl K)  {S : xSt} {i1 : Int32} {i2 : Int32} {i3 : Int32} {i4 : Int32} (h : f7_writeCode_J21   S i1 i2 i3 i4 = some out) : xG K X S 21 [(0, xr K 7 0), (1, .int i1), (2, .int i2), (3, .int i3), (4, .int i4)] [] := by
  unfold f7_writeCode_J21 at h
  refine g_aload_n hX dX7_writeCode_21 rfl 0 rfl ?_
  refine g_getR hX hV (xf7_38 _) dX7_writeCode_22 ?_
  refine g_aload_n hX dX7_writeCode_25 rfl 0 rfl ?_
  refine g_getI hX hV xf7_88 dX7_writeCode_26 ?_
  refine g_iload_n hX dX7_writeCode_29 rfl 1 rfl ?_
  obtain ⟨hbj1, h⟩ := xat_inv h
  obtain ⟨S2, eS2, h⟩ := xlet_inv h
  refine g_iast (n := 300) hX (xvc_7_12 hX.vc hV) (fun _ => rfl) hbj1 dX7_writeCode_30 eS2 ?_
  refine g_aload_n hX dX7_writeCode_31 rfl 0 rfl ?_
  refine g_getR hX hV (xf7_41 _) dX7_writeCode_32 ?_
  refine g_aload_n hX dX7_writeCode_35 rfl 0 rfl ?_
  refine g_getI hX hV xf7_88 dX7_writeCode_36 ?_
  refine g_iload hX dX7_writeCode_39 4 rfl ?_
  obtain ⟨hbj3, h⟩ := xat_inv h
  obtain ⟨S4, eS4, h⟩ := xlet_inv h
  refine g_iast (n := 300) hX (xvc_7_13 hX.vc hV) (fun _ => rfl) hbj3 dX7_writeCode_41 eS4 ?_
  refine g_aload_n hX dX7_writeCode_42 rfl 0 rfl ?_
  refine g_getR hX hV (xf7_44 _) dX7_writeCode_43 ?_
  refine g_aload_n hX dX7_writeCode_46 rfl 0 rfl ?_
  refine g_getI hX hV xf7_88 dX7_writeCode_47 ?_
  refine g_iload_n hX dX7_writeCode_50 rfl 2 rfl ?_
  obtain ⟨hbj5, h⟩ := xat_inv h
  obtain ⟨S6, eS6, h⟩ := xlet_inv h
  refine g_iast (n := 300) hX (xvc_7_14 hX.vc hV) (fun _ => rfl) hbj5 dX7_writeCode_51 eS6 ?_
  refine g_aload_n hX dX7_writeCode_52 rfl 0 rfl ?_
  refine g_getR hX hV (xf7_47 _) dX7_writeCode_53 ?_
  refine g_aload_n hX dX7_writeCode_56 rfl 0 rfl ?_
  refine g_getI hX hV xf7_88 dX7_writeCode_57 ?_
  refine g_iload_n hX dX7_writeCode_60 rfl 3 rfl ?_
  obtain ⟨hbj7, h⟩ := xat_inv h
  obtain ⟨S8, eS8, h⟩ := xlet_inv h
  refine g_iast (n := 300) hX (xvc_7_15 hX.vc hV) (fun _ => rfl) hbj7 dX7_writeCode_61 eS8 ?_
  refine g_aload_n hX dX7_writeCode_62 rfl 0 rfl ?_
  refine g_getR hX hV (xf7_50 _) dX7_writeCode_63 ?_
  refine g_aload_n hX dX7_writeCode_66 rfl 0 rfl ?_
  refine g_getI hX hV xf7_88 dX7_writeCode_67 ?_
  refine g_aload_n hX dX7_writeCode_70 rfl 0 rfl ?_
  refine g_getI hX hV xf7_85 dX7_writeCode_71 ?_
  obtain ⟨hbj9, h⟩ := xat_inv h
  obtain ⟨S10, eS10, h⟩ := xlet_inv h
  refine g_iast (n := 300) hX (xvc_7_16 hX.vc hV) (fun _ => rfl) hbj9 dX7_writeCode_74 eS10 ?_
  refine g_aload_n hX dX7_writeCode_75 rfl 0 rfl ?_
  refine g_dup hX dX7_writeCode_76 rfl ?_
  refine g_getI hX hV xf7_88 dX7_writeCode_77 ?_
  refine g_iconst (v := (1 : Int32)) hX dX7_writeCode_80 (by decide) ?_
  refine g_iadd hX dX7_writeCode_81 ?_
  obtain ⟨S11, eS11, h⟩ := xlet_inv h
  refine g_putI hX hV xf7_88 dX7_writeCode_82 eS11 ?_
  exact g_vret hX hM (Option.some.inj h) dX7_writeCode_85
set_option maxRecDepth 100000 in
theorem sb7_writeCode_L3 {K : xK} {X : xX} {out : xR}  (hX : xOK K X RX7 cX7_writeCode 5) (hM : xM K X out none) (hR : xRm X 0 0) (hV : (7, 0) ∈ xvl K)  {k3 : xSt → Int32 → Int32 → Int32 → Int32 → Option xR} (hk3 : ∀ (S : xSt) (i1 : Int32) (i2 : Int32) (i3 : Int32) (i4 : Int32), k3 S i1 i2 i3 i4 = some out → xG K X S 3 [(0, xr K 7 0), (1, .int i1), (2, .int i2), (3, .int i3), (4, .int i4)] []) {S : xSt} {i1 : Int32} {i2 : Int32} {i3 : Int32} {i4 : Int32} (h : b7_writeCode_L3   k3 S i1 i2 i3 i4 = some out) : xG K X S 3 [(0, xr K 7 0), (1, .int i1), (2, .int i2), (3, .int i3), (4, .int i4)] [] := by
  unfold b7_writeCode_L3 at h
  refine g_aload_n hX dX7_writeCode_3 rfl 0 rfl ?_
  refine g_getI hX hV xf7_85 dX7_writeCode_4 ?_
  refine g_iconst (v := (1 : Int32)) hX dX7_writeCode_7 (by decide) ?_
  refine g_isub hX dX7_writeCode_8 ?_
  refine g_iload hX dX7_writeCode_9 4 rfl ?_
  refine g_ishr hX dX7_writeCode_11 ?_
  refine g_if_le hX 21 dX7_writeCode_12 (by decide) (fun hc => ?_) (fun hc => ?_)
  · have h := xif_t hc h
    exact sf7_writeCode_J21 hX hM hR hV h
  · have h := xif_f hc h
    refine g_iinc (v := (i4 + (1 : Int32))) (lv2 := [(4, .int (i4 + (1 : Int32))), (0, xr K 7 0), (1, .int i1), (2, .int i2), (3, .int i3)]) hX dX7_writeCode_15 4 rfl rfl (by decide) rfl ?_
    refine g_goto hX 3 dX7_writeCode_18 (by decide) ?_
    exact g_sub [1, 2, 3, 4, 0] (by rfl) (hk3 _ _ _ _ _ h)
theorem sf7_writeCode_L3 {K : xK} {X : xX} {out : xR}  (hX : xOK K X RX7 cX7_writeCode 5) (hM : xM K X out none) (hR : xRm X 0 0) (hV : (7, 0) ∈ xvl K)  : ∀ (n : Nat) (S : xSt) (i1 : Int32) (i2 : Int32) (i3 : Int32) (i4 : Int32) (h : f7_writeCode_L3   n S i1 i2 i3 i4 = some out), xG K X S 3 [(0, xr K 7 0), (1, .int i1), (2, .int i2), (3, .int i3), (4, .int i4)] [] := by
  intro n
  induction n with
  | zero => intro S i1 i2 i3 i4 h; cases h
  | succ n ih => intro S i1 i2 i3 i4 h; exact sb7_writeCode_L3 hX hM hR hV  ih h
set_option maxRecDepth 100000 in
theorem c7_writeCode {l : Launch} {K : xK}  (hvc : xVC (xvl K)) (hV : (7, 0) ∈ xvl K) {S : xSt} {a1 : Int32} {a2 : Int32} {a3 : Int32} {out : xR} (h : f7_writeCode S  a1 a2 a3 = some out) : xMet l K yX7_writeCode cX7_writeCode 5 none 0 0 S [xr K 7 0, .int a1, .int a2, .int a3] out := by
  refine xMet_of RX7 (by decide +kernel) rfl hvc (Nat.le_of_ble_eq_true rfl) ?_
  intro X hX hM hR
  show xG K X S 0 [(0, xr K 7 0), (1, .int a1), (2, .int a2), (3, .int a3)] []
  unfold f7_writeCode at h
  refine g_iconst (v := (4 : Int32)) hX dX7_writeCode_0 (by decide) ?_
  refine g_istore (lv2 := [(4, .int (4 : Int32)), (0, xr K 7 0), (1, .int a1), (2, .int a2), (3, .int a3)]) hX dX7_writeCode_1 (by decide) rfl ?_
  exact g_sub [1, 2, 3, 4, 0] (by rfl) (sf7_writeCode_L3 hX hM hR hV _ _ _ _ _ _ h)
set_option maxRecDepth 100000 in
theorem sb7_sumUpTo_L11 {K : xK} {X : xX} {out : xR}  (hX : xOK K X RX7 cX7_sumUpTo 4) (hM : xM K X out (some .int)) (hR : xRm X 0 0) (hV : (7, 0) ∈ xvl K)  {k11 : xSt → Int32 → Int32 → Int32 → Option xR} (hk11 : ∀ (S : xSt) (i1 : Int32) (i2 : Int32) (i3 : Int32), k11 S i1 i2 i3 = some out → xG K X S 11 [(0, xr K 7 0), (1, .int i1), (2, .int i2), (3, .int i3)] []) {S : xSt} {i1 : Int32} {i2 : Int32} {i3 : Int32} (h : b7_sumUpTo_L11   k11 S i1 i2 i3 = some out) : xG K X S 11 [(0, xr K 7 0), (1, .int i1), (2, .int i2), (3, .int i3)] [] := by
  unfold b7_sumUpTo_L11 at h
  refine g_iload_n hX dX7_sumUpTo_11 rfl 3 rfl ?_
  refine g_iload_n hX dX7_sumUpTo_12 rfl 1 rfl ?_
  refine g_icmp_ge hX 31 dX7_sumUpTo_13 (by decide) (fun hc => ?_) (fun hc => ?_)
  · have h := xif_t hc h
    refine g_iload_n hX dX7_sumUpTo_31 rfl 2 rfl ?_
    exact g_iret hX hM (Option.some.inj h) dX7_sumUpTo_32
  · have h := xif_f hc h
    refine g_iload_n hX dX7_sumUpTo_16 rfl 2 rfl ?_
    refine g_aload_n hX dX7_sumUpTo_17 rfl 0 rfl ?_
    refine g_getR hX hV (xf7_47 _) dX7_sumUpTo_18 ?_
    refine g_iload_n hX dX7_sumUpTo_21 rfl 3 rfl ?_
    obtain ⟨hbj1, h⟩ := xat_inv h
    refine g_iald (n := 300) hX (xvc_7_15 hX.vc hV) rfl hbj1 dX7_sumUpTo_22 ?_
    refine g_iadd hX dX7_sumUpTo_23 ?_
    refine g_istore_n (lv2 := [(2, .int (i2 + (S 45 0 (i3).toNatClampNeg))), (0, xr K 7 0), (1, .int i1), (3, .int i3)]) hX dX7_sumUpTo_24 rfl (by decide) rfl ?_
    refine g_iinc (v := (i3 + (1 : Int32))) (lv2 := [(3, .int (i3 + (1 : Int32))), (2, .int (i2 + (S 45 0 (i3).toNatClampNeg))), (0, xr K 7 0), (1, .int i1)]) hX dX7_sumUpTo_25 3 rfl rfl (by decide) rfl ?_
    refine g_goto hX 11 dX7_sumUpTo_28 (by decide) ?_
    exact g_sub [2, 3, 1, 0] (by rfl) (hk11 _ _ _ _ h)
theorem sf7_sumUpTo_L11 {K : xK} {X : xX} {out : xR}  (hX : xOK K X RX7 cX7_sumUpTo 4) (hM : xM K X out (some .int)) (hR : xRm X 0 0) (hV : (7, 0) ∈ xvl K)  : ∀ (n : Nat) (S : xSt) (i1 : Int32) (i2 : Int32) (i3 : Int32) (h : f7_sumUpTo_L11   n S i1 i2 i3 = some out), xG K X S 11 [(0, xr K 7 0), (1, .int i1), (2, .int i2), (3, .int i3)] [] := by
  intro n
  induction n with
  | zero => intro S i1 i2 i3 h; cases h
  | succ n ih => intro S i1 i2 i3 h; exact sb7_sumUpTo_L11 hX hM hR hV  ih h
set_option maxRecDepth 100000 in
theorem c7_sumUpTo {l : Launch} {K : xK}  (hvc : xVC (xvl K)) (hV : (7, 0) ∈ xvl K) {S : xSt} {a1 : Int32} {out : xR} (h : f7_sumUpTo S  a1 = some out) : xMet l K yX7_sumUpTo cX7_sumUpTo 4 (some .int) 0 0 S [xr K 7 0, .int a1] out := by
  refine xMet_of RX7 (by decide +kernel) rfl hvc (Nat.le_of_ble_eq_true rfl) ?_
  intro X hX hM hR
  show xG K X S 0 [(0, xr K 7 0), (1, .int a1)] []
  unfold f7_sumUpTo at h
  refine g_iconst (v := (0 : Int32)) hX dX7_sumUpTo_0 (by decide) ?_
  refine g_istore_n (lv2 := [(2, .int (0 : Int32)), (0, xr K 7 0), (1, .int a1)]) hX dX7_sumUpTo_1 rfl (by decide) rfl ?_
  refine g_iload_n hX dX7_sumUpTo_2 rfl 2 rfl ?_
  refine g_aload_n hX dX7_sumUpTo_3 rfl 1 rfl ?_
  refine g_getR hX hV (xf7_7 _) dX7_sumUpTo_4 ?_
  refine g_iconst (v := (2 : Int32)) hX dX7_sumUpTo_7 (by decide) ?_
  obtain ⟨hbj1, h⟩ := xat_inv h
  refine g_iald (n := 560) hX (xvc_7_0 hX.vc hV) rfl hbj1 dX7_sumUpTo_8 ?_
  refine g_isub hX dX7_sumUpTo_9 ?_
  refine g_istore_n (lv2 := [(3, .int (a1 - (S 33 0 ((2 : Int32)).toNatClampNeg))), (2, .int (0 : Int32)), (0, xr K 7 0), (1, .int a1)]) hX dX7_sumUpTo_10 rfl (by decide) rfl ?_
  exact g_sub [2, 3, 1, 0] (by rfl) (sf7_sumUpTo_L11 hX hM hR hV _ _ _ _ _ h)
set_option maxRecDepth 100000 in
theorem sf7_write_J340 {K : xK} {X : xX} {out : xR}  (hX : xOK K X RX7 cX7_write 10) (hM : xM K X out none) (hR : xRm X 1 24) (hV : (7, 0) ∈ xvl K)  {S : xSt}  (h : f7_write_J340   S  = some out) : xG K X S 340 [(0, xr K 7 0)] [] := by
  unfold f7_write_J340 at h
  refine g_aload_n hX dX7_write_340 rfl 0 rfl ?_
  refine g_bipush (v := (9 : Int32)) hX dX7_write_341 (by decide) ?_
  refine g_bipush (v := (-6 : Int32)) hX dX7_write_343 (by decide) ?_
  refine g_iconst (v := (0 : Int32)) hX dX7_write_345 (by decide) ?_
  obtain ⟨S1, hcS1, h⟩ := xbV_inv h
  refine g_callV hX hR hV (fun l => c7_writeCode (l := l) hX.vc hV hcS1) xc7_101 rfl ⟨by decide, by decide⟩ rfl rfl (Nat.le_of_ble_eq_true rfl) dX7_write_346 ?_
  exact g_vret hX hM (Option.some.inj h) dX7_write_349
set_option maxRecDepth 100000 in
theorem sf7_write_J337 {K : xK} {X : xX} {out : xR}  (hX : xOK K X RX7 cX7_write 10) (hM : xM K X out none) (hR : xRm X 1 24) (hV : (7, 0) ∈ xvl K) {k24 : xSt → Int32 → Int32 → Int32 → Int32 → Option xR} (hk24 : ∀ (S : xSt) (i2 : Int32) (i3 : Int32) (i4 : Int32) (i5 : Int32), k24 S i2 i3 i4 i5 = some out → xG K X S 24 [(0, xr K 7 0), (2, .int i2), (3, .int i3), (4, .int i4), (5, .int i5)] []) {S : xSt} {i2 : Int32} {i3 : Int32} {i4 : Int32} {i5 : Int32} (h : f7_write_J337  k24 S i2 i3 i4 i5 = some out) : xG K X S 337 [(0, xr K 7 0), (2, .int i2), (3, .int i3), (4, .int i4), (5, .int i5)] [] := by
  unfold f7_write_J337 at h
  refine g_goto hX 24 dX7_write_337 (by decide) ?_
  exact hk24 _ _ _ _ _ h
set_option maxRecDepth 100000 in
theorem sf7_write_J319 {K : xK} {X : xX} {out : xR}  (hX : xOK K X RX7 cX7_write 10) (hM : xM K X out none) (hR : xRm X 1 24) (hV : (7, 0) ∈ xvl K) {k24 : xSt → Int32 → Int32 → Int32 → Int32 → Option xR} (hk24 : ∀ (S : xSt) (i2 : Int32) (i3 : Int32) (i4 : Int32) (i5 : Int32), k24 S i2 i3 i4 i5 = some out → xG K X S 24 [(0, xr K 7 0), (2, .int i2), (3, .int i3), (4, .int i4), (5, .int i5)] []) {S : xSt} {i2 : Int32} {i3 : Int32} {i4 : Int32} {i5 : Int32} {i9 : Int32} (h : f7_write_J319  k24 S i2 i3 i4 i5 i9 = some out) : xG K X S 319 [(0, xr K 7 0), (2, .int i2), (3, .int i3), (4, .int i4), (5, .int i5), (9, .int i9)] [] := by
  unfold f7_write_J319 at h
  refine g_iload hX dX7_write_319 5 rfl ?_
  refine g_if_eq hX 337 dX7_write_321 (by decide) (fun hc => ?_) (fun hc => ?_)
  · have h := xif_t hc h
    exact g_sub [0, 1, 2, 3, 4] (by rfl) (sf7_write_J337 hX hM hR hV hk24 h)
  · have h := xif_f hc h
    refine g_aload_n hX dX7_write_324 rfl 0 rfl ?_
    refine g_bipush (v := (8 : Int32)) hX dX7_write_325 (by decide) ?_
    refine g_bipush (v := (-6 : Int32)) hX dX7_write_327 (by decide) ?_
    refine g_iconst (v := (0 : Int32)) hX dX7_write_329 (by decide) ?_
    obtain ⟨S1, hcS1, h⟩ := xbV_inv h
    refine g_callV hX hR hV (fun l => c7_writeCode (l := l) hX.vc hV hcS1) xc7_101 rfl ⟨by decide, by decide⟩ rfl rfl (Nat.le_of_ble_eq_true rfl) dX7_write_330 ?_
    refine g_aload_n hX dX7_write_333 rfl 0 rfl ?_
    obtain ⟨S2, hcS2, h⟩ := xbV_inv h
    refine g_callV hX hR hV (fun l => c7_beginBook (l := l) hX.vc hV hcS2) xc7_94 rfl ⟨by decide, by decide⟩ rfl rfl (Nat.le_of_ble_eq_true rfl) dX7_write_334 ?_
    exact g_sub [0, 1, 2, 3, 4] (by rfl) (sf7_write_J337 hX hM hR hV hk24 h)
set_option maxRecDepth 100000 in
theorem sf7_write_J317 {K : xK} {X : xX} {out : xR}  (hX : xOK K X RX7 cX7_write 10) (hM : xM K X out none) (hR : xRm X 1 24) (hV : (7, 0) ∈ xvl K) {k24 : xSt → Int32 → Int32 → Int32 → Int32 → Option xR} (hk24 : ∀ (S : xSt) (i2 : Int32) (i3 : Int32) (i4 : Int32) (i5 : Int32), k24 S i2 i3 i4 i5 = some out → xG K X S 24 [(0, xr K 7 0), (2, .int i2), (3, .int i3), (4, .int i4), (5, .int i5)] []) {S : xSt} {i2 : Int32} {i3 : Int32} {i4 : Int32} {i5 : Int32} {k0 : Int32} (h : f7_write_J317  k24 S i2 i3 i4 i5 k0 = some out) : xG K X S 317 [(0, xr K 7 0), (2, .int i2), (3, .int i3), (4, .int i4), (5, .int i5)] [.int k0] := by
  unfold f7_write_J317 at h
  refine g_istore (lv2 := [(9, .int k0), (0, xr K 7 0), (2, .int i2), (3, .int i3), (4, .int i4), (5, .int i5)]) hX dX7_write_317 (by decide) rfl ?_
  exact g_sub [1, 2, 3, 4, 5, 0] (by rfl) (sf7_write_J319 hX hM hR hV hk24 h)
set_option maxRecDepth 100000 in
theorem sf7_write_J253 {K : xK} {X : xX} {out : xR}  (hX : xOK K X RX7 cX7_write 10) (hM : xM K X out none) (hR : xRm X 1 24) (hV : (7, 0) ∈ xvl K) {k24 : xSt → Int32 → Int32 → Int32 → Int32 → Option xR} (hk24 : ∀ (S : xSt) (i2 : Int32) (i3 : Int32) (i4 : Int32) (i5 : Int32), k24 S i2 i3 i4 i5 = some out → xG K X S 24 [(0, xr K 7 0), (2, .int i2), (3, .int i3), (4, .int i4), (5, .int i5)] []) {S : xSt} {i2 : Int32} {i3 : Int32} {i4 : Int32} {i5 : Int32} {k0 : Int32} (h : f7_write_J253  k24 S i2 i3 i4 i5 k0 = some out) : xG K X S 253 [(0, xr K 7 0), (2, .int i2), (3, .int i3), (4, .int i4), (5, .int i5)] [.int k0] := by
  unfold f7_write_J253 at h
  refine g_istore (lv2 := [(9, .int k0), (0, xr K 7 0), (2, .int i2), (3, .int i3), (4, .int i4), (5, .int i5)]) hX dX7_write_253 (by decide) rfl ?_
  refine g_aload_n hX dX7_write_255 rfl 1 rfl ?_
  refine g_getI hX hV xf7_85 dX7_write_256 ?_
  refine g_iload_n hX dX7_write_259 rfl 3 rfl ?_
  refine g_icmp_ne hX 319 dX7_write_260 (by decide) (fun hc => ?_) (fun hc => ?_)
  · have h := xif_f hc h
    exact g_sub [1, 2, 3, 4, 5, 0] (by rfl) (sf7_write_J319 hX hM hR hV hk24 h)
  · have h := xif_t hc h
    refine g_iload_n hX dX7_write_263 rfl 2 rfl ?_
    refine g_iconst (v := (2 : Int32)) hX dX7_write_264 (by decide) ?_
    refine g_icmp_ne hX 319 dX7_write_265 (by decide) (fun hc => ?_) (fun hc => ?_)
    · have h := xif_f hc h
      exact g_sub [1, 2, 3, 4, 5, 0] (by rfl) (sf7_write_J319 hX hM hR hV hk24 h)
    · have h := xif_t hc h
      refine g_aload_n hX dX7_write_268 rfl 1 rfl ?_
      refine g_getI hX hV xf7_88 dX7_write_269 ?_
      refine g_iload hX dX7_write_272 5 rfl ?_
      refine g_isub hX dX7_write_274 ?_
      refine g_iconst (v := (2 : Int32)) hX dX7_write_275 (by decide) ?_
      refine g_aload_n hX dX7_write_276 rfl 1 rfl ?_
      refine g_getR hX hV (xf7_7 _) dX7_write_277 ?_
      refine g_iconst (v := (2 : Int32)) hX dX7_write_280 (by decide) ?_
      obtain ⟨hbj1, h⟩ := xat_inv h
      refine g_iald (n := 560) hX (xvc_7_0 hX.vc hV) rfl hbj1 dX7_write_281 ?_
      refine g_imul hX dX7_write_282 ?_
      refine g_icmp_lt hX 319 dX7_write_283 (by decide) (fun hc => ?_) (fun hc => ?_)
      · have h := xif_t hc h
        exact g_sub [1, 2, 3, 4, 5, 0] (by rfl) (sf7_write_J319 hX hM hR hV hk24 h)
      · have h := xif_f hc h
        refine g_aload_n hX dX7_write_286 rfl 1 rfl ?_
        refine g_aload_n hX dX7_write_287 rfl 1 rfl ?_
        refine g_getI hX hV xf7_88 dX7_write_288 ?_
        obtain ⟨S2, r3, hcS2, h⟩ := xbI_inv h
        refine g_callV hX hR hV (fun l => c7_sumUpTo (l := l) hX.vc hV hcS2) xc7_109 rfl ⟨by decide, by decide⟩ rfl rfl (Nat.le_of_ble_eq_true rfl) dX7_write_291 ?_
        refine g_aload_n hX dX7_write_294 rfl 1 rfl ?_
        refine g_aload_n hX dX7_write_295 rfl 1 rfl ?_
        refine g_getI hX hV xf7_88 dX7_write_296 ?_
        refine g_aload_n hX dX7_write_299 rfl 1 rfl ?_
        refine g_getR hX hV (xf7_7 _) dX7_write_300 ?_
        refine g_iconst (v := (2 : Int32)) hX dX7_write_303 (by decide) ?_
        obtain ⟨hbj4, h⟩ := xat_inv h
        refine g_iald (n := 560) hX (xvc_7_0 hX.vc hV) rfl hbj4 dX7_write_304 ?_
        refine g_isub hX dX7_write_305 ?_
        obtain ⟨S5, r6, hcS5, h⟩ := xbI_inv h
        refine g_callV hX hR hV (fun l => c7_sumUpTo (l := l) hX.vc hV hcS5) xc7_109 rfl ⟨by decide, by decide⟩ rfl rfl (Nat.le_of_ble_eq_true rfl) dX7_write_306 ?_
        refine g_icmp_ge hX 316 dX7_write_309 (by decide) (fun hc => ?_) (fun hc => ?_)
        · have h := xif_t hc h
          refine g_iconst (v := (0 : Int32)) hX dX7_write_316 (by decide) ?_
          exact g_sub [1, 2, 3, 4, 5] (by rfl) (sf7_write_J317 hX hM hR hV hk24 h)
        · have h := xif_f hc h
          refine g_iconst (v := (1 : Int32)) hX dX7_write_312 (by decide) ?_
          refine g_goto hX 317 dX7_write_313 (by decide) ?_
          exact g_sub [1, 2, 3, 4, 5] (by rfl) (sf7_write_J317 hX hM hR hV hk24 h)
set_option maxRecDepth 100000 in
theorem sf7_write_J252 {K : xK} {X : xX} {out : xR}  (hX : xOK K X RX7 cX7_write 10) (hM : xM K X out none) (hR : xRm X 1 24) (hV : (7, 0) ∈ xvl K) {k24 : xSt → Int32 → Int32 → Int32 → Int32 → Option xR} (hk24 : ∀ (S : xSt) (i2 : Int32) (i3 : Int32) (i4 : Int32) (i5 : Int32), k24 S i2 i3 i4 i5 = some out → xG K X S 24 [(0, xr K 7 0), (2, .int i2), (3, .int i3), (4, .int i4), (5, .int i5)] []) {S : xSt} {i2 : Int32} {i3 : Int32} {i4 : Int32} {i5 : Int32} (h : f7_write_J252  k24 S i2 i3 i4 i5 = some out) : xG K X S 252 [(0, xr K 7 0), (2, .int i2), (3, .int i3), (4, .int i4), (5, .int i5)] [] := by
  unfold f7_write_J252 at h
  refine g_iconst (v := (0 : Int32)) hX dX7_write_252 (by decide) ?_
  exact sf7_write_J253 hX hM hR hV hk24 h
set_option maxRecDepth 100000 in
theorem sf7_write_J235 {K : xK} {X : xX} {out : xR}  (hX : xOK K X RX7 cX7_write 10) (hM : xM K X out none) (hR : xRm X 1 24) (hV : (7, 0) ∈ xvl K) {k24 : xSt → Int32 → Int32 → Int32 → Int32 → Option xR} (hk24 : ∀ (S : xSt) (i2 : Int32) (i3 : Int32) (i4 : Int32) (i5 : Int32), k24 S i2 i3 i4 i5 = some out → xG K X S 24 [(0, xr K 7 0), (2, .int i2), (3, .int i3), (4, .int i4), (5, .int i5)] []) {S : xSt} {i2 : Int32} {i3 : Int32} {i4 : Int32} {i5 : Int32} (h : f7_write_J235  k24 S i2 i3 i4 i5 = some out) : xG K X S 235 [(0, xr K 7 0), (2, .int i2), (3, .int i3), (4, .int i4), (5, .int i5)] [] := by
  unfold f7_write_J235 at h
  refine g_aload_n hX dX7_write_235 rfl 0 rfl ?_
  refine g_getI hX hV xf7_85 dX7_write_236 ?_
  refine g_iload_n hX dX7_write_239 rfl 2 rfl ?_
  refine g_icmp_ne hX 252 dX7_write_240 (by decide) (fun hc => ?_) (fun hc => ?_)
  · have h := xif_f hc h
    exact sf7_write_J252 hX hM hR hV hk24 h
  · have h := xif_t hc h
    refine g_iload_n hX dX7_write_243 rfl 1 rfl ?_
    refine g_iconst (v := (1 : Int32)) hX dX7_write_244 (by decide) ?_
    refine g_icmp_ne hX 252 dX7_write_245 (by decide) (fun hc => ?_) (fun hc => ?_)
    · have h := xif_f hc h
      exact sf7_write_J252 hX hM hR hV hk24 h
    · have h := xif_t hc h
      refine g_iconst (v := (1 : Int32)) hX dX7_write_248 (by decide) ?_
      refine g_goto hX 253 dX7_write_249 (by decide) ?_
      exact sf7_write_J253 hX hM hR hV hk24 h
set_option maxRecDepth 100000 in
theorem sf7_write_J226 {K : xK} {X : xX} {out : xR}  (hX : xOK K X RX7 cX7_write 10) (hM : xM K X out none) (hR : xRm X 1 24) (hV : (7, 0) ∈ xvl K) {k24 : xSt → Int32 → Int32 → Int32 → Int32 → Option xR} (hk24 : ∀ (S : xSt) (i2 : Int32) (i3 : Int32) (i4 : Int32) (i5 : Int32), k24 S i2 i3 i4 i5 = some out → xG K X S 24 [(0, xr K 7 0), (2, .int i2), (3, .int i3), (4, .int i4), (5, .int i5)] []) {S : xSt} {i2 : Int32} {i3 : Int32} {i4 : Int32} {k0 : Int32} (h : f7_write_J226  k24 S i2 i3 i4 k0 = some out) : xG K X S 226 [(0, xr K 7 0), (2, .int i2), (3, .int i3), (4, .int i4)] [.int k0, xr K 7 0] := by
  unfold f7_write_J226 at h
  obtain ⟨S1, eS1, h⟩ := xlet_inv h
  refine g_putI hX hV xf7_91 dX7_write_226 eS1 ?_
  refine g_aload_n hX dX7_write_229 rfl 0 rfl ?_
  refine g_getI hX hV xf7_88 dX7_write_230 ?_
  refine g_istore (lv2 := [(5, .int (S1 7 0 17)), (0, xr K 7 0), (2, .int i2), (3, .int i3), (4, .int i4)]) hX dX7_write_233 (by decide) rfl ?_
  exact g_sub [1, 2, 3, 4, 0] (by rfl) (sf7_write_J235 hX hM hR hV hk24 h)
set_option maxRecDepth 100000 in
theorem sf7_write_J137 {K : xK} {X : xX} {out : xR}  (hX : xOK K X RX7 cX7_write 10) (hM : xM K X out none) (hR : xRm X 1 24) (hV : (7, 0) ∈ xvl K) {k24 : xSt → Int32 → Int32 → Int32 → Int32 → Option xR} (hk24 : ∀ (S : xSt) (i2 : Int32) (i3 : Int32) (i4 : Int32) (i5 : Int32), k24 S i2 i3 i4 i5 = some out → xG K X S 24 [(0, xr K 7 0), (2, .int i2), (3, .int i3), (4, .int i4), (5, .int i5)] []) {S : xSt} {i2 : Int32} {i3 : Int32} {i4 : Int32} {i5 : Int32} {i6 : Int32} {i7 : Int32} (h : f7_write_J137  k24 S i2 i3 i4 i5 i6 i7 = some out) : xG K X S 137 [(0, xr K 7 0), (2, .int i2), (3, .int i3), (4, .int i4), (5, .int i5), (6, .int i6), (7, .int i7)] [] := by
  unfold f7_write_J137 at h
  refine g_aload_n hX dX7_write_137 rfl 0 rfl ?_
  refine g_iload hX dX7_write_138 5 rfl ?_
  refine g_iload hX dX7_write_140 3 rfl ?_
  refine g_iload hX dX7_write_142 6 rfl ?_
  obtain ⟨S1, hcS1, h⟩ := xbV_inv h
  refine g_callV hX hR hV (fun l => c7_writeCode (l := l) hX.vc hV hcS1) xc7_101 rfl ⟨by decide, by decide⟩ rfl rfl (Nat.le_of_ble_eq_true rfl) dX7_write_144 ?_
  refine g_iload hX dX7_write_147 3 rfl ?_
  refine g_iload hX dX7_write_149 6 rfl ?_
  refine g_iadd hX dX7_write_151 ?_
  refine g_istore (lv2 := [(4, .int (i4 + i7)), (0, xr K 7 0), (2, .int i2), (3, .int i3), (5, .int i5), (6, .int i6), (7, .int i7)]) hX dX7_write_152 (by decide) rfl ?_
  refine g_iload hX dX7_write_154 0 rfl ?_
  refine g_aload_n hX dX7_write_156 rfl 1 rfl ?_
  refine g_getR hX hV (xf7_7 _) dX7_write_157 ?_
  refine g_iconst (v := (3 : Int32)) hX dX7_write_160 (by decide) ?_
  obtain ⟨hbj2, h⟩ := xat_inv h
  refine g_iald (n := 560) hX (xvc_7_0 hX.vc hV) rfl hbj2 dX7_write_161 ?_
  refine g_icmp_ge hX 337 dX7_write_162 (by decide) (fun hc => ?_) (fun hc => ?_)
  · have h := xif_t hc h
    exact g_sub [1, 2, 3, 0, 4] (by rfl) (sf7_write_J337 hX hM hR hV hk24 h)
  · have h := xif_f hc h
    refine g_aload_n hX dX7_write_165 rfl 1 rfl ?_
    refine g_getI hX hV xf7_85 dX7_write_166 ?_
    refine g_iload_n hX dX7_write_169 rfl 3 rfl ?_
    refine g_icmp_ge hX 235 dX7_write_170 (by decide) (fun hc => ?_) (fun hc => ?_)
    · have h := xif_t hc h
      exact g_sub [1, 2, 3, 0, 4] (by rfl) (sf7_write_J235 hX hM hR hV hk24 h)
    · have h := xif_f hc h
      refine g_aload_n hX dX7_write_173 rfl 1 rfl ?_
      refine g_iload hX dX7_write_174 5 rfl ?_
      refine g_aload_n hX dX7_write_176 rfl 1 rfl ?_
      refine g_getR hX hV (xf7_7 _) dX7_write_177 ?_
      refine g_bipush (v := (10 : Int32)) hX dX7_write_180 (by decide) ?_
      refine g_iload hX dX7_write_182 0 rfl ?_
      refine g_iadd hX dX7_write_184 ?_
      obtain ⟨hbj3, h⟩ := xat_inv h
      refine g_iald (n := 560) hX (xvc_7_0 hX.vc hV) rfl hbj3 dX7_write_185 ?_
      obtain ⟨S4, hcS4, h⟩ := xbV_inv h
      refine g_callV hX hR hV (fun l => c7_enterPhrase (l := l) hX.vc hV hcS4) xc7_105 rfl ⟨by decide, by decide⟩ rfl rfl (Nat.le_of_ble_eq_true rfl) dX7_write_186 ?_
      refine g_aload_n hX dX7_write_189 rfl 1 rfl ?_
      refine g_aload_n hX dX7_write_190 rfl 1 rfl ?_
      refine g_getR hX hV (xf7_35 _) dX7_write_191 ?_
      refine g_aload_n hX dX7_write_194 rfl 1 rfl ?_
      refine g_getI hX hV xf7_85 dX7_write_195 ?_
      refine g_iconst (v := (1 : Int32)) hX dX7_write_198 (by decide) ?_
      refine g_isub hX dX7_write_199 ?_
      obtain ⟨hbj5, h⟩ := xat_inv h
      refine g_iald (n := 512) hX (xvc_7_10 hX.vc hV) rfl hbj5 dX7_write_200 ?_
      refine g_aload_n hX dX7_write_201 rfl 1 rfl ?_
      refine g_getI hX hV xf7_91 dX7_write_202 ?_
      refine g_icmp_le hX 222 dX7_write_205 (by decide) (fun hc => ?_) (fun hc => ?_)
      · have h := xif_t hc h
        refine g_aload_n hX dX7_write_222 rfl 1 rfl ?_
        refine g_getI hX hV xf7_91 dX7_write_223 ?_
        exact g_sub [1, 2, 3, 0] (by rfl) (sf7_write_J226 hX hM hR hV hk24 h)
      · have h := xif_f hc h
        refine g_aload_n hX dX7_write_208 rfl 1 rfl ?_
        refine g_getR hX hV (xf7_35 _) dX7_write_209 ?_
        refine g_aload_n hX dX7_write_212 rfl 1 rfl ?_
        refine g_getI hX hV xf7_85 dX7_write_213 ?_
        refine g_iconst (v := (1 : Int32)) hX dX7_write_216 (by decide) ?_
        refine g_isub hX dX7_write_217 ?_
        obtain ⟨hbj6, h⟩ := xat_inv h
        refine g_iald (n := 512) hX (xvc_7_10 hX.vc hV) rfl hbj6 dX7_write_218 ?_
        refine g_goto hX 226 dX7_write_219 (by decide) ?_
        exact g_sub [1, 2, 3, 0] (by rfl) (sf7_write_J226 hX hM hR hV hk24 h)
set_option maxRecDepth 100000 in
theorem sf7_write_J131 {K : xK} {X : xX} {out : xR}  (hX : xOK K X RX7 cX7_write 10) (hM : xM K X out none) (hR : xRm X 1 24) (hV : (7, 0) ∈ xvl K) {k24 : xSt → Int32 → Int32 → Int32 → Int32 → Option xR} (hk24 : ∀ (S : xSt) (i2 : Int32) (i3 : Int32) (i4 : Int32) (i5 : Int32), k24 S i2 i3 i4 i5 = some out → xG K X S 24 [(0, xr K 7 0), (2, .int i2), (3, .int i3), (4, .int i4), (5, .int i5)] []) {k53 : xSt → Int32 → Int32 → Int32 → Int32 → Int32 → Int32 → Int32 → Option xR} (hk53 : ∀ (S : xSt) (i2 : Int32) (i3 : Int32) (i4 : Int32) (i5 : Int32) (i6 : Int32) (i7 : Int32) (i8 : Int32), k53 S i2 i3 i4 i5 i6 i7 i8 = some out → xG K X S 53 [(0, xr K 7 0), (2, .int i2), (3, .int i3), (4, .int i4), (5, .int i5), (6, .int i6), (7, .int i7), (8, .int i8)] []) {S : xSt} {i2 : Int32} {i3 : Int32} {i4 : Int32} {i5 : Int32} {i6 : Int32} {i8 : Int32} {k0 : Int32} {k1 : Int32} (h : f7_write_J131  k24 k53 S i2 i3 i4 i5 i6 i8 k0 k1 = some out) : xG K X S 131 [(0, xr K 7 0), (2, .int i2), (3, .int i3), (4, .int i4), (5, .int i5), (6, .int i6), (8, .int i8)] [.int k0, .int k1] := by
  unfold f7_write_J131 at h
  refine g_iadd hX dX7_write_131 ?_
  refine g_istore (lv2 := [(7, .int (k1 + k0)), (0, xr K 7 0), (2, .int i2), (3, .int i3), (4, .int i4), (5, .int i5), (6, .int i6), (8, .int i8)]) hX dX7_write_132 (by decide) rfl ?_
  refine g_goto hX 53 dX7_write_134 (by decide) ?_
  exact g_sub [1, 2, 3, 4, 5, 6, 0, 7] (by rfl) (hk53 _ _ _ _ _ _ _ _ h)
set_option maxRecDepth 100000 in
theorem sf7_write_J117 {K : xK} {X : xX} {out : xR}  (hX : xOK K X RX7 cX7_write 10) (hM : xM K X out none) (hR : xRm X 1 24) (hV : (7, 0) ∈ xvl K) {k24 : xSt → Int32 → Int32 → Int32 → Int32 → Option xR} (hk24 : ∀ (S : xSt) (i2 : Int32) (i3 : Int32) (i4 : Int32) (i5 : Int32), k24 S i2 i3 i4 i5 = some out → xG K X S 24 [(0, xr K 7 0), (2, .int i2), (3, .int i3), (4, .int i4), (5, .int i5)] []) {k53 : xSt → Int32 → Int32 → Int32 → Int32 → Int32 → Int32 → Int32 → Option xR} (hk53 : ∀ (S : xSt) (i2 : Int32) (i3 : Int32) (i4 : Int32) (i5 : Int32) (i6 : Int32) (i7 : Int32) (i8 : Int32), k53 S i2 i3 i4 i5 i6 i7 i8 = some out → xG K X S 53 [(0, xr K 7 0), (2, .int i2), (3, .int i3), (4, .int i4), (5, .int i5), (6, .int i6), (7, .int i7), (8, .int i8)] []) {S : xSt} {i2 : Int32} {i3 : Int32} {i4 : Int32} {i5 : Int32} {i7 : Int32} {i8 : Int32} {k0 : Int32} (h : f7_write_J117  k24 k53 S i2 i3 i4 i5 i7 i8 k0 = some out) : xG K X S 117 [(0, xr K 7 0), (2, .int i2), (3, .int i3), (4, .int i4), (5, .int i5), (7, .int i7), (8, .int i8)] [.int k0] := by
  unfold f7_write_J117 at h
  refine g_istore (lv2 := [(6, .int k0), (0, xr K 7 0), (2, .int i2), (3, .int i3), (4, .int i4), (5, .int i5), (7, .int i7), (8, .int i8)]) hX dX7_write_117 (by decide) rfl ?_
  refine g_iload hX dX7_write_119 6 rfl ?_
  refine g_iload hX dX7_write_121 7 rfl ?_
  refine g_if_eq hX 130 dX7_write_123 (by decide) (fun hc => ?_) (fun hc => ?_)
  · have h := xif_t hc h
    refine g_iconst (v := (0 : Int32)) hX dX7_write_130 (by decide) ?_
    exact g_sub [1, 2, 3, 4, 5, 0, 7] (by rfl) (sf7_write_J131 hX hM hR hV hk24 hk53 h)
  · have h := xif_f hc h
    refine g_iconst (v := (1 : Int32)) hX dX7_write_126 (by decide) ?_
    refine g_goto hX 131 dX7_write_127 (by decide) ?_
    exact g_sub [1, 2, 3, 4, 5, 0, 7] (by rfl) (sf7_write_J131 hX hM hR hV hk24 hk53 h)
set_option maxRecDepth 100000 in
theorem sf7_write_J103 {K : xK} {X : xX} {out : xR}  (hX : xOK K X RX7 cX7_write 10) (hM : xM K X out none) (hR : xRm X 1 24) (hV : (7, 0) ∈ xvl K) {k24 : xSt → Int32 → Int32 → Int32 → Int32 → Option xR} (hk24 : ∀ (S : xSt) (i2 : Int32) (i3 : Int32) (i4 : Int32) (i5 : Int32), k24 S i2 i3 i4 i5 = some out → xG K X S 24 [(0, xr K 7 0), (2, .int i2), (3, .int i3), (4, .int i4), (5, .int i5)] []) {k53 : xSt → Int32 → Int32 → Int32 → Int32 → Int32 → Int32 → Int32 → Option xR} (hk53 : ∀ (S : xSt) (i2 : Int32) (i3 : Int32) (i4 : Int32) (i5 : Int32) (i6 : Int32) (i7 : Int32) (i8 : Int32), k53 S i2 i3 i4 i5 i6 i7 i8 = some out → xG K X S 53 [(0, xr K 7 0), (2, .int i2), (3, .int i3), (4, .int i4), (5, .int i5), (6, .int i6), (7, .int i7), (8, .int i8)] []) {S : xSt} {i2 : Int32} {i3 : Int32} {i4 : Int32} {i5 : Int32} {i6 : Int32} {i7 : Int32} {i9 : Int32} {k0 : Int32} (h : f7_write_J103  k24 k53 S i2 i3 i4 i5 i6 i7 i9 k0 = some out) : xG K X S 103 [(0, xr K 7 0), (2, .int i2), (3, .int i3), (4, .int i4), (5, .int i5), (6, .int i6), (7, .int i7), (9, .int i9)] [.int k0] := by
  unfold f7_write_J103 at h
  refine g_istore (lv2 := [(8, .int k0), (0, xr K 7 0), (2, .int i2), (3, .int i3), (4, .int i4), (5, .int i5), (6, .int i6), (7, .int i7), (9, .int i9)]) hX dX7_write_103 (by decide) rfl ?_
  refine g_iload hX dX7_write_105 0 rfl ?_
  refine g_if_eq hX 115 dX7_write_107 (by decide) (fun hc => ?_) (fun hc => ?_)
  · have h := xif_t hc h
    refine g_iload hX dX7_write_115 6 rfl ?_
    exact g_sub [1, 2, 3, 4, 5, 7, 0] (by rfl) (sf7_write_J117 hX hM hR hV hk24 hk53 h)
  · have h := xif_f hc h
    refine g_iload hX dX7_write_110 8 rfl ?_
    refine g_goto hX 117 dX7_write_112 (by decide) ?_
    exact g_sub [1, 2, 3, 4, 5, 7, 0] (by rfl) (sf7_write_J117 hX hM hR hV hk24 hk53 h)
set_option maxRecDepth 100000 in
theorem sb7_write_L53 {K : xK} {X : xX} {out : xR}  (hX : xOK K X RX7 cX7_write 10) (hM : xM K X out none) (hR : xRm X 1 24) (hV : (7, 0) ∈ xvl K) {k24 : xSt → Int32 → Int32 → Int32 → Int32 → Option xR} (hk24 : ∀ (S : xSt) (i2 : Int32) (i3 : Int32) (i4 : Int32) (i5 : Int32), k24 S i2 i3 i4 i5 = some out → xG K X S 24 [(0, xr K 7 0), (2, .int i2), (3, .int i3), (4, .int i4), (5, .int i5)] []) {k53 : xSt → Int32 → Int32 → Int32 → Int32 → Int32 → Int32 → Int32 → Option xR} (hk53 : ∀ (S : xSt) (i2 : Int32) (i3 : Int32) (i4 : Int32) (i5 : Int32) (i6 : Int32) (i7 : Int32) (i8 : Int32), k53 S i2 i3 i4 i5 i6 i7 i8 = some out → xG K X S 53 [(0, xr K 7 0), (2, .int i2), (3, .int i3), (4, .int i4), (5, .int i5), (6, .int i6), (7, .int i7), (8, .int i8)] []) {S : xSt} {i2 : Int32} {i3 : Int32} {i4 : Int32} {i5 : Int32} {i6 : Int32} {i7 : Int32} {i8 : Int32} (h : b7_write_L53  k24 k53 S i2 i3 i4 i5 i6 i7 i8 = some out) : xG K X S 53 [(0, xr K 7 0), (2, .int i2), (3, .int i3), (4, .int i4), (5, .int i5), (6, .int i6), (7, .int i7), (8, .int i8)] [] := by
  unfold b7_write_L53 at h
  refine g_iload hX dX7_write_53 7 rfl ?_
  refine g_if_eq hX 137 dX7_write_55 (by decide) (fun hc => ?_) (fun hc => ?_)
  · have h := xif_t hc h
    exact g_sub [0, 1, 2, 3, 4, 5, 6] (by rfl) (sf7_write_J137 hX hM hR hV hk24 h)
  · have h := xif_f hc h
    refine g_iload hX dX7_write_58 3 rfl ?_
    refine g_iload hX dX7_write_60 6 rfl ?_
    refine g_iadd hX dX7_write_62 ?_
    refine g_aload_n hX dX7_write_63 rfl 0 rfl ?_
    refine g_getR hX hV (xf7_7 _) dX7_write_64 ?_
    refine g_iconst (v := (3 : Int32)) hX dX7_write_67 (by decide) ?_
    obtain ⟨hbj1, h⟩ := xat_inv h
    refine g_iald (n := 560) hX (xvc_7_0 hX.vc hV) rfl hbj1 dX7_write_68 ?_
    refine g_icmp_ge hX 137 dX7_write_69 (by decide) (fun hc => ?_) (fun hc => ?_)
    · have h := xif_t hc h
      exact g_sub [0, 1, 2, 3, 4, 5, 6] (by rfl) (sf7_write_J137 hX hM hR hV hk24 h)
    · have h := xif_f hc h
      refine g_aload_n hX dX7_write_72 rfl 0 rfl ?_
      refine g_iload hX dX7_write_73 5 rfl ?_
      refine g_aload_n hX dX7_write_75 rfl 0 rfl ?_
      refine g_getR hX hV (xf7_7 _) dX7_write_76 ?_
      refine g_bipush (v := (10 : Int32)) hX dX7_write_79 (by decide) ?_
      refine g_iload hX dX7_write_81 3 rfl ?_
      refine g_iadd hX dX7_write_83 ?_
      refine g_iload hX dX7_write_84 6 rfl ?_
      refine g_iadd hX dX7_write_86 ?_
      obtain ⟨hbj2, h⟩ := xat_inv h
      refine g_iald (n := 560) hX (xvc_7_0 hX.vc hV) rfl hbj2 dX7_write_87 ?_
      obtain ⟨S3, r4, hcS3, h⟩ := xbI_inv h
      refine g_callV hX hR hV (fun l => c7_longer (l := l) hX.vc hV hcS3) xc7_97 rfl ⟨by decide, by decide⟩ rfl rfl (Nat.le_of_ble_eq_true rfl) dX7_write_88 ?_
      refine g_istore (lv2 := [(9, .int r4), (0, xr K 7 0), (2, .int i2), (3, .int i3), (4, .int i4), (5, .int i5), (6, .int i6), (7, .int i7), (8, .int i8)]) hX dX7_write_91 (by decide) rfl ?_
      refine g_iload hX dX7_write_93 0 rfl ?_
      refine g_if_lt hX 102 dX7_write_95 (by decide) (fun hc => ?_) (fun hc => ?_)
      · have h := xif_t hc h
        refine g_iconst (v := (0 : Int32)) hX dX7_write_102 (by decide) ?_
        exact g_sub [1, 2, 3, 4, 5, 6, 7, 0] (by rfl) (sf7_write_J103 hX hM hR hV hk24 hk53 h)
      · have h := xif_f hc h
        refine g_iconst (v := (1 : Int32)) hX dX7_write_98 (by decide) ?_
        refine g_goto hX 103 dX7_write_99 (by decide) ?_
        exact g_sub [1, 2, 3, 4, 5, 6, 7, 0] (by rfl) (sf7_write_J103 hX hM hR hV hk24 hk53 h)
theorem sf7_write_L53 {K : xK} {X : xX} {out : xR}  (hX : xOK K X RX7 cX7_write 10) (hM : xM K X out none) (hR : xRm X 1 24) (hV : (7, 0) ∈ xvl K) {k24 : xSt → Int32 → Int32 → Int32 → Int32 → Option xR} (hk24 : ∀ (S : xSt) (i2 : Int32) (i3 : Int32) (i4 : Int32) (i5 : Int32), k24 S i2 i3 i4 i5 = some out → xG K X S 24 [(0, xr K 7 0), (2, .int i2), (3, .int i3), (4, .int i4), (5, .int i5)] []) : ∀ (n : Nat) (S : xSt) (i2 : Int32) (i3 : Int32) (i4 : Int32) (i5 : Int32) (i6 : Int32) (i7 : Int32) (i8 : Int32) (h : f7_write_L53  k24 n S i2 i3 i4 i5 i6 i7 i8 = some out), xG K X S 53 [(0, xr K 7 0), (2, .int i2), (3, .int i3), (4, .int i4), (5, .int i5), (6, .int i6), (7, .int i7), (8, .int i8)] [] := by
  intro n
  induction n with
  | zero => intro S i2 i3 i4 i5 i6 i7 i8 h; cases h
  | succ n ih => intro S i2 i3 i4 i5 i6 i7 i8 h; exact sb7_write_L53 hX hM hR hV hk24 ih h
set_option maxRecDepth 100000 in
theorem sb7_write_L24 {K : xK} {X : xX} {out : xR}  (hX : xOK K X RX7 cX7_write 10) (hM : xM K X out none) (hR : xRm X 1 24) (hV : (7, 0) ∈ xvl K)  {k24 : xSt → Int32 → Int32 → Int32 → Int32 → Option xR} (hk24 : ∀ (S : xSt) (i2 : Int32) (i3 : Int32) (i4 : Int32) (i5 : Int32), k24 S i2 i3 i4 i5 = some out → xG K X S 24 [(0, xr K 7 0), (2, .int i2), (3, .int i3), (4, .int i4), (5, .int i5)] []) {S : xSt} {i2 : Int32} {i3 : Int32} {i4 : Int32} {i5 : Int32} (h : b7_write_L24   k24 S i2 i3 i4 i5 = some out) : xG K X S 24 [(0, xr K 7 0), (2, .int i2), (3, .int i3), (4, .int i4), (5, .int i5)] [] := by
  unfold b7_write_L24 at h
  refine g_iload hX dX7_write_24 3 rfl ?_
  refine g_aload_n hX dX7_write_26 rfl 0 rfl ?_
  refine g_getR hX hV (xf7_7 _) dX7_write_27 ?_
  refine g_iconst (v := (3 : Int32)) hX dX7_write_30 (by decide) ?_
  obtain ⟨hbj1, h⟩ := xat_inv h
  refine g_iald (n := 560) hX (xvc_7_0 hX.vc hV) rfl hbj1 dX7_write_31 ?_
  refine g_icmp_ge hX 340 dX7_write_32 (by decide) (fun hc => ?_) (fun hc => ?_)
  · have h := xif_t hc h
    exact g_sub [0] (by rfl) (sf7_write_J340 hX hM hR hV h)
  · have h := xif_f hc h
    refine g_aload_n hX dX7_write_35 rfl 0 rfl ?_
    refine g_getR hX hV (xf7_7 _) dX7_write_36 ?_
    refine g_bipush (v := (10 : Int32)) hX dX7_write_39 (by decide) ?_
    refine g_iload hX dX7_write_41 3 rfl ?_
    refine g_iadd hX dX7_write_43 ?_
    obtain ⟨hbj2, h⟩ := xat_inv h
    refine g_iald (n := 560) hX (xvc_7_0 hX.vc hV) rfl hbj2 dX7_write_44 ?_
    refine g_istore (lv2 := [(6, .int (S 33 0 (((10 : Int32) + i4)).toNatClampNeg)), (0, xr K 7 0), (2, .int i2), (3, .int i3), (4, .int i4), (5, .int i5)]) hX dX7_write_45 (by decide) rfl ?_
    refine g_iconst (v := (1 : Int32)) hX dX7_write_47 (by decide) ?_
    refine g_istore (lv2 := [(7, .int (1 : Int32)), (6, .int (S 33 0 (((10 : Int32) + i4)).toNatClampNeg)), (0, xr K 7 0), (2, .int i2), (3, .int i3), (4, .int i4), (5, .int i5)]) hX dX7_write_48 (by decide) rfl ?_
    refine g_iconst (v := (1 : Int32)) hX dX7_write_50 (by decide) ?_
    refine g_istore (lv2 := [(8, .int (1 : Int32)), (7, .int (1 : Int32)), (6, .int (S 33 0 (((10 : Int32) + i4)).toNatClampNeg)), (0, xr K 7 0), (2, .int i2), (3, .int i3), (4, .int i4), (5, .int i5)]) hX dX7_write_51 (by decide) rfl ?_
    exact g_sub [3, 4, 5, 6, 7, 2, 1, 0] (by rfl) (sf7_write_L53 hX hM hR hV hk24 _ _ _ _ _ _ _ _ _ h)
theorem sf7_write_L24 {K : xK} {X : xX} {out : xR}  (hX : xOK K X RX7 cX7_write 10) (hM : xM K X out none) (hR : xRm X 1 24) (hV : (7, 0) ∈ xvl K)  : ∀ (n : Nat) (S : xSt) (i2 : Int32) (i3 : Int32) (i4 : Int32) (i5 : Int32) (h : f7_write_L24   n S i2 i3 i4 i5 = some out), xG K X S 24 [(0, xr K 7 0), (2, .int i2), (3, .int i3), (4, .int i4), (5, .int i5)] [] := by
  intro n
  induction n with
  | zero => intro S i2 i3 i4 i5 h; cases h
  | succ n ih => intro S i2 i3 i4 i5 h; exact sb7_write_L24 hX hM hR hV  ih h
set_option maxRecDepth 100000 in
theorem c7_write {l : Launch} {K : xK}  (hvc : xVC (xvl K)) (hV : (7, 0) ∈ xvl K) {S : xSt} {a1 : Int32} {a2 : Int32} {out : xR} (h : f7_write S  a1 a2 = some out) : xMet l K yX7_write cX7_write 10 none 1 24 S [xr K 7 0, .int a1, .int a2] out := by
  refine xMet_of RX7 (by decide +kernel) rfl hvc (Nat.le_of_ble_eq_true rfl) ?_
  intro X hX hM hR
  show xG K X S 0 [(0, xr K 7 0), (1, .int a1), (2, .int a2)] []
  unfold f7_write at h
  refine g_iconst (v := (1 : Int32)) hX dX7_write_0 (by decide) ?_
  refine g_iload_n hX dX7_write_1 rfl 1 rfl ?_
  refine g_ishl hX dX7_write_2 ?_
  refine g_istore_n (lv2 := [(3, .int ((1 : Int32) <<< (a1 &&& 31))), (0, xr K 7 0), (1, .int a1), (2, .int a2)]) hX dX7_write_3 rfl (by decide) rfl ?_
  refine g_iconst (v := (0 : Int32)) hX dX7_write_4 (by decide) ?_
  refine g_istore (lv2 := [(4, .int (0 : Int32)), (3, .int ((1 : Int32) <<< (a1 &&& 31))), (0, xr K 7 0), (1, .int a1), (2, .int a2)]) hX dX7_write_5 (by decide) rfl ?_
  refine g_iconst (v := (0 : Int32)) hX dX7_write_7 (by decide) ?_
  refine g_istore (lv2 := [(5, .int (0 : Int32)), (4, .int (0 : Int32)), (3, .int ((1 : Int32) <<< (a1 &&& 31))), (0, xr K 7 0), (1, .int a1), (2, .int a2)]) hX dX7_write_8 (by decide) rfl ?_
  refine g_aload_n hX dX7_write_10 rfl 3 rfl ?_
  refine g_iconst (v := (0 : Int32)) hX dX7_write_11 (by decide) ?_
  obtain ⟨S1, eS1, h⟩ := xlet_inv h
  refine g_putI hX hV xf7_88 dX7_write_12 eS1 ?_
  refine g_aload_n hX dX7_write_15 rfl 3 rfl ?_
  refine g_iconst (v := (0 : Int32)) hX dX7_write_16 (by decide) ?_
  obtain ⟨S2, eS2, h⟩ := xlet_inv h
  refine g_putI hX hV xf7_91 dX7_write_17 eS2 ?_
  refine g_aload_n hX dX7_write_20 rfl 3 rfl ?_
  obtain ⟨S3, hcS3, h⟩ := xbV_inv h
  refine g_callV hX hR hV (fun l => c7_beginBook (l := l) hX.vc hV hcS3) xc7_94 rfl ⟨by decide, by decide⟩ rfl rfl (Nat.le_of_ble_eq_true rfl) dX7_write_21 ?_
  exact g_sub [3, 5, 2, 1, 0] (by rfl) (sf7_write_L24 hX hM hR hV _ _ _ _ _ _ h)
set_option maxRecDepth 100000 in
theorem c7_writeNow {l : Launch} {K : xK}  (hvc : xVC (xvl K)) (hV : (7, 0) ∈ xvl K) {S : xSt}  {out : xR} (h : f7_writeNow S   = some out) : xMet l K yX7_writeNow cX7_writeNow 1 none 2 53 S [xr K 7 0] out := by
  refine xMet_of RX7 (by decide +kernel) rfl hvc (Nat.le_of_ble_eq_true rfl) ?_
  intro X hX hM hR
  show xG K X S 0 [(0, xr K 7 0)] []
  unfold f7_writeNow at h
  refine g_aload_n hX dX7_writeNow_0 rfl 0 rfl ?_
  refine g_aload_n hX dX7_writeNow_1 rfl 0 rfl ?_
  refine g_getR hX hV (xf7_7 _) dX7_writeNow_2 ?_
  refine g_iconst (v := (0 : Int32)) hX dX7_writeNow_5 (by decide) ?_
  obtain ⟨hbj1, h⟩ := xat_inv h
  refine g_iald (n := 560) hX (xvc_7_0 hX.vc hV) rfl hbj1 dX7_writeNow_6 ?_
  refine g_aload_n hX dX7_writeNow_7 rfl 0 rfl ?_
  refine g_getR hX hV (xf7_7 _) dX7_writeNow_8 ?_
  refine g_iconst (v := (1 : Int32)) hX dX7_writeNow_11 (by decide) ?_
  obtain ⟨hbj2, h⟩ := xat_inv h
  refine g_iald (n := 560) hX (xvc_7_0 hX.vc hV) rfl hbj2 dX7_writeNow_12 ?_
  obtain ⟨S3, hcS3, h⟩ := xbV_inv h
  refine g_callV hX hR hV (fun l => c7_write (l := l) hX.vc hV hcS3) xc7_113 rfl ⟨by decide, by decide⟩ rfl rfl (Nat.le_of_ble_eq_true rfl) dX7_writeNow_13 ?_
  exact g_vret hX hM (Option.some.inj h) dX7_writeNow_16
set_option maxRecDepth 100000 in
theorem sb7_bits_L4 {K : xK} {X : xX} {out : xR}  (hX : xOK K X RX7 cX7_bits 3) (hM : xM K X out (some .int)) (hR : xRm X 0 0) (hV : (7, 0) ∈ xvl K)  {k4 : xSt → Int32 → Int32 → Option xR} (hk4 : ∀ (S : xSt) (i1 : Int32) (i2 : Int32), k4 S i1 i2 = some out → xG K X S 4 [(0, xr K 7 0), (1, .int i1), (2, .int i2)] []) {S : xSt} {i1 : Int32} {i2 : Int32} (h : b7_bits_L4   k4 S i1 i2 = some out) : xG K X S 4 [(0, xr K 7 0), (1, .int i1), (2, .int i2)] [] := by
  unfold b7_bits_L4 at h
  refine g_iload_n hX dX7_bits_4 rfl 2 rfl ?_
  refine g_aload_n hX dX7_bits_5 rfl 0 rfl ?_
  refine g_getI hX hV xf7_88 dX7_bits_6 ?_
  refine g_icmp_ge hX 27 dX7_bits_9 (by decide) (fun hc => ?_) (fun hc => ?_)
  · have h := xif_t hc h
    refine g_iload_n hX dX7_bits_27 rfl 1 rfl ?_
    exact g_iret hX hM (Option.some.inj h) dX7_bits_28
  · have h := xif_f hc h
    refine g_iload_n hX dX7_bits_12 rfl 1 rfl ?_
    refine g_aload_n hX dX7_bits_13 rfl 0 rfl ?_
    refine g_getR hX hV (xf7_41 _) dX7_bits_14 ?_
    refine g_iload_n hX dX7_bits_17 rfl 2 rfl ?_
    obtain ⟨hbj1, h⟩ := xat_inv h
    refine g_iald (n := 300) hX (xvc_7_13 hX.vc hV) rfl hbj1 dX7_bits_18 ?_
    refine g_iadd hX dX7_bits_19 ?_
    refine g_istore_n (lv2 := [(1, .int (i1 + (S 43 0 (i2).toNatClampNeg))), (0, xr K 7 0), (2, .int i2)]) hX dX7_bits_20 rfl (by decide) rfl ?_
    refine g_iinc (v := (i2 + (1 : Int32))) (lv2 := [(2, .int (i2 + (1 : Int32))), (1, .int (i1 + (S 43 0 (i2).toNatClampNeg))), (0, xr K 7 0)]) hX dX7_bits_21 2 rfl rfl (by decide) rfl ?_
    refine g_goto hX 4 dX7_bits_24 (by decide) ?_
    exact g_sub [2, 1, 0] (by rfl) (hk4 _ _ _ h)
theorem sf7_bits_L4 {K : xK} {X : xX} {out : xR}  (hX : xOK K X RX7 cX7_bits 3) (hM : xM K X out (some .int)) (hR : xRm X 0 0) (hV : (7, 0) ∈ xvl K)  : ∀ (n : Nat) (S : xSt) (i1 : Int32) (i2 : Int32) (h : f7_bits_L4   n S i1 i2 = some out), xG K X S 4 [(0, xr K 7 0), (1, .int i1), (2, .int i2)] [] := by
  intro n
  induction n with
  | zero => intro S i1 i2 h; cases h
  | succ n ih => intro S i1 i2 h; exact sb7_bits_L4 hX hM hR hV  ih h
set_option maxRecDepth 100000 in
theorem c7_bits {l : Launch} {K : xK}  (hvc : xVC (xvl K)) (hV : (7, 0) ∈ xvl K) {S : xSt}  {out : xR} (h : f7_bits S   = some out) : xMet l K yX7_bits cX7_bits 3 (some .int) 0 0 S [xr K 7 0] out := by
  refine xMet_of RX7 (by decide +kernel) rfl hvc (Nat.le_of_ble_eq_true rfl) ?_
  intro X hX hM hR
  show xG K X S 0 [(0, xr K 7 0)] []
  unfold f7_bits at h
  refine g_iconst (v := (0 : Int32)) hX dX7_bits_0 (by decide) ?_
  refine g_istore_n (lv2 := [(1, .int (0 : Int32)), (0, xr K 7 0)]) hX dX7_bits_1 rfl (by decide) rfl ?_
  refine g_iconst (v := (0 : Int32)) hX dX7_bits_2 (by decide) ?_
  refine g_istore_n (lv2 := [(2, .int (0 : Int32)), (1, .int (0 : Int32)), (0, xr K 7 0)]) hX dX7_bits_3 rfl (by decide) rfl ?_
  exact g_sub [2, 1, 0] (by rfl) (sf7_bits_L4 hX hM hR hV _ _ _ _ h)
set_option maxRecDepth 100000 in
theorem c7_spoil {l : Launch} {K : xK}  (hvc : xVC (xvl K)) (hV : (7, 0) ∈ xvl K) {S : xSt} {a1 : Int32} {a2 : Int32} {out : xR} (h : f7_spoil S  a1 a2 = some out) : xMet l K yX7_spoil cX7_spoil 3 (some .int) 3 73 S [xr K 7 0, .int a1, .int a2] out := by
  refine xMet_of RX7 (by decide +kernel) rfl hvc (Nat.le_of_ble_eq_true rfl) ?_
  intro X hX hM hR
  show xG K X S 0 [(0, xr K 7 0), (1, .int a1), (2, .int a2)] []
  unfold f7_spoil at h
  refine g_aload_n hX dX7_spoil_0 rfl 0 rfl ?_
  obtain ⟨S1, hcS1, h⟩ := xbV_inv h
  refine g_callV hX hR hV (fun l => c7_writeNow (l := l) hX.vc hV hcS1) xc7_116 rfl ⟨by decide, by decide⟩ rfl rfl (Nat.le_of_ble_eq_true rfl) dX7_spoil_1 ?_
  refine g_iload_n hX dX7_spoil_4 rfl 1 rfl ?_
  refine g_iconst (v := (0 : Int32)) hX dX7_spoil_5 (by decide) ?_
  refine g_aload_n hX dX7_spoil_6 rfl 0 rfl ?_
  refine g_getI hX hV xf7_88 dX7_spoil_7 ?_
  refine g_iconst (v := (1 : Int32)) hX dX7_spoil_10 (by decide) ?_
  refine g_isub hX dX7_spoil_11 ?_
  obtain ⟨S2, r3, hcS2, h⟩ := xbI_inv h
  refine g_callS hX hR (fun l => c7_in (l := l) hX.vc hcS2) xc7_71 rfl ⟨by decide, by decide⟩ rfl rfl (Nat.le_of_ble_eq_true rfl) dX7_spoil_12 ?_
  refine g_if_ne hX 20 dX7_spoil_15 (by decide) (fun hc => ?_) (fun hc => ?_)
  · have h := xif_f hc h
    refine g_iload_n hX dX7_spoil_20 rfl 2 rfl ?_
    refine g_iconst (v := (1 : Int32)) hX dX7_spoil_21 (by decide) ?_
    refine g_sipush (v := (511 : Int32)) hX dX7_spoil_22 (by decide) ?_
    obtain ⟨S4, r5, hcS4, h⟩ := xbI_inv h
    refine g_callS hX hR (fun l => c7_in (l := l) hX.vc hcS4) xc7_71 rfl ⟨by decide, by decide⟩ rfl rfl (Nat.le_of_ble_eq_true rfl) dX7_spoil_25 ?_
    refine g_if_ne hX 34 dX7_spoil_28 (by decide) (fun hc => ?_) (fun hc => ?_)
    · have h := xif_f hc h
      refine g_aload_n hX dX7_spoil_34 rfl 0 rfl ?_
      obtain ⟨S6, hcS6, h⟩ := xbV_inv h
      refine g_callV hX hR hV (fun l => c7_record (l := l) hX.vc hV hcS6) xc7_79 rfl ⟨by decide, by decide⟩ rfl rfl (Nat.le_of_ble_eq_true rfl) dX7_spoil_35 ?_
      refine g_aload_n hX dX7_spoil_38 rfl 0 rfl ?_
      refine g_getR hX hV (xf7_7 _) dX7_spoil_39 ?_
      refine g_sipush (v := (250 : Int32)) hX dX7_spoil_42 (by decide) ?_
      refine g_iload_n hX dX7_spoil_45 rfl 1 rfl ?_
      refine g_iadd hX dX7_spoil_46 ?_
      refine g_dup2 hX dX7_spoil_47 rfl rfl ?_
      obtain ⟨hbj7, h⟩ := xat_inv h
      refine g_iald (n := 560) hX (xvc_7_0 hX.vc hV) rfl hbj7 dX7_spoil_48 ?_
      refine g_iload_n hX dX7_spoil_49 rfl 2 rfl ?_
      refine g_ixor hX dX7_spoil_50 ?_
      obtain ⟨hbj8, h⟩ := xat_inv h
      obtain ⟨S9, eS9, h⟩ := xlet_inv h
      refine g_iast (n := 560) hX (xvc_7_0 hX.vc hV) (fun _ => rfl) hbj8 dX7_spoil_51 eS9 ?_
      refine g_aload_n hX dX7_spoil_52 rfl 0 rfl ?_
      refine g_getR hX hV (xf7_38 _) dX7_spoil_53 ?_
      refine g_iload_n hX dX7_spoil_56 rfl 1 rfl ?_
      obtain ⟨hbj10, h⟩ := xat_inv h
      refine g_iald (n := 300) hX (xvc_7_12 hX.vc hV) rfl hbj10 dX7_spoil_57 ?_
      refine g_aload_n hX dX7_spoil_58 rfl 0 rfl ?_
      refine g_getR hX hV (xf7_7 _) dX7_spoil_59 ?_
      refine g_sipush (v := (250 : Int32)) hX dX7_spoil_62 (by decide) ?_
      refine g_iload_n hX dX7_spoil_65 rfl 1 rfl ?_
      refine g_iadd hX dX7_spoil_66 ?_
      obtain ⟨hbj11, h⟩ := xat_inv h
      refine g_iald (n := 560) hX (xvc_7_0 hX.vc hV) rfl hbj11 dX7_spoil_67 ?_
      refine g_ixor hX dX7_spoil_68 ?_
      exact g_iret hX hM (Option.some.inj h) dX7_spoil_69
    · have h := xif_t hc h
      refine g_bipush (v := (-2 : Int32)) hX dX7_spoil_31 (by decide) ?_
      exact g_iret hX hM (Option.some.inj h) dX7_spoil_33
  · have h := xif_t hc h
    refine g_iconst (v := (-1 : Int32)) hX dX7_spoil_18 (by decide) ?_
    exact g_iret hX hM (Option.some.inj h) dX7_spoil_19
set_option maxRecDepth 100000 in
theorem sf7_repeat_J81 {K : xK} {X : xX} {out : xR}  (hX : xOK K X RX7 cX7_repeat 6) (hM : xM K X out none) (hR : xRm X 0 0) (hV : (7, 0) ∈ xvl K) {k10 : xSt → Int32 → Int32 → Int32 → Option xR} (hk10 : ∀ (S : xSt) (i2 : Int32) (i3 : Int32) (i4 : Int32), k10 S i2 i3 i4 = some out → xG K X S 10 [(0, xr K 7 0), (2, .int i2), (3, .int i3), (4, .int i4)] []) {S : xSt} {i2 : Int32} {i3 : Int32} {i4 : Int32} (h : f7_repeat_J81  k10 S i2 i3 i4 = some out) : xG K X S 81 [(0, xr K 7 0), (2, .int i2), (3, .int i3), (4, .int i4)] [] := by
  unfold f7_repeat_J81 at h
  refine g_iinc (v := (i4 + (1 : Int32))) (lv2 := [(4, .int (i4 + (1 : Int32))), (0, xr K 7 0), (2, .int i2), (3, .int i3)]) hX dX7_repeat_81 3 rfl rfl (by decide) rfl ?_
  refine g_goto hX 10 dX7_repeat_84 (by decide) ?_
  exact g_sub [1, 2, 3, 0] (by rfl) (hk10 _ _ _ _ h)
set_option maxRecDepth 100000 in
theorem sb7_repeat_L29 {K : xK} {X : xX} {out : xR}  (hX : xOK K X RX7 cX7_repeat 6) (hM : xM K X out none) (hR : xRm X 0 0) (hV : (7, 0) ∈ xvl K) {k10 : xSt → Int32 → Int32 → Int32 → Option xR} (hk10 : ∀ (S : xSt) (i2 : Int32) (i3 : Int32) (i4 : Int32), k10 S i2 i3 i4 = some out → xG K X S 10 [(0, xr K 7 0), (2, .int i2), (3, .int i3), (4, .int i4)] []) {k29 : xSt → Int32 → Int32 → Int32 → Int32 → Option xR} (hk29 : ∀ (S : xSt) (i2 : Int32) (i3 : Int32) (i4 : Int32) (i5 : Int32), k29 S i2 i3 i4 i5 = some out → xG K X S 29 [(0, xr K 7 0), (2, .int i2), (3, .int i3), (4, .int i4), (5, .int i5)] []) {S : xSt} {i2 : Int32} {i3 : Int32} {i4 : Int32} {i5 : Int32} (h : b7_repeat_L29  k10 k29 S i2 i3 i4 i5 = some out) : xG K X S 29 [(0, xr K 7 0), (2, .int i2), (3, .int i3), (4, .int i4), (5, .int i5)] [] := by
  unfold b7_repeat_L29 at h
  refine g_iload hX dX7_repeat_29 4 rfl ?_
  refine g_iload_n hX dX7_repeat_31 rfl 2 rfl ?_
  refine g_icmp_ge hX 81 dX7_repeat_32 (by decide) (fun hc => ?_) (fun hc => ?_)
  · have h := xif_t hc h
    exact g_sub [0, 1, 2, 3] (by rfl) (sf7_repeat_J81 hX hM hR hV hk10 h)
  · have h := xif_f hc h
    refine g_aload_n hX dX7_repeat_35 rfl 0 rfl ?_
    refine g_getI hX hV xf7_119 dX7_repeat_36 ?_
    refine g_sipush (v := (240 : Int32)) hX dX7_repeat_39 (by decide) ?_
    refine g_icmp_gt hX 81 dX7_repeat_42 (by decide) (fun hc => ?_) (fun hc => ?_)
    · have h := xif_t hc h
      exact g_sub [0, 1, 2, 3] (by rfl) (sf7_repeat_J81 hX hM hR hV hk10 h)
    · have h := xif_f hc h
      refine g_aload_n hX dX7_repeat_45 rfl 0 rfl ?_
      refine g_getR hX hV (xf7_53 _) dX7_repeat_46 ?_
      refine g_aload_n hX dX7_repeat_49 rfl 0 rfl ?_
      refine g_getI hX hV xf7_119 dX7_repeat_50 ?_
      refine g_aload_n hX dX7_repeat_53 rfl 0 rfl ?_
      refine g_getR hX hV (xf7_53 _) dX7_repeat_54 ?_
      refine g_aload_n hX dX7_repeat_57 rfl 0 rfl ?_
      refine g_getI hX hV xf7_119 dX7_repeat_58 ?_
      refine g_iload_n hX dX7_repeat_61 rfl 2 rfl ?_
      refine g_isub hX dX7_repeat_62 ?_
      obtain ⟨hbj1, h⟩ := xat_inv h
      refine g_iald (n := 300) hX (xvc_7_19 hX.vc hV) rfl hbj1 dX7_repeat_63 ?_
      obtain ⟨hbj2, h⟩ := xat_inv h
      obtain ⟨S3, eS3, h⟩ := xlet_inv h
      refine g_iast (n := 300) hX (xvc_7_19 hX.vc hV) (fun _ => rfl) hbj2 dX7_repeat_64 eS3 ?_
      refine g_aload_n hX dX7_repeat_65 rfl 0 rfl ?_
      refine g_dup hX dX7_repeat_66 rfl ?_
      refine g_getI hX hV xf7_119 dX7_repeat_67 ?_
      refine g_iconst (v := (1 : Int32)) hX dX7_repeat_70 (by decide) ?_
      refine g_iadd hX dX7_repeat_71 ?_
      obtain ⟨S4, eS4, h⟩ := xlet_inv h
      refine g_putI hX hV xf7_119 dX7_repeat_72 eS4 ?_
      refine g_iinc (v := (i5 + (1 : Int32))) (lv2 := [(5, .int (i5 + (1 : Int32))), (0, xr K 7 0), (2, .int i2), (3, .int i3), (4, .int i4)]) hX dX7_repeat_75 4 rfl rfl (by decide) rfl ?_
      refine g_goto hX 29 dX7_repeat_78 (by decide) ?_
      exact g_sub [1, 2, 3, 4, 0] (by rfl) (hk29 _ _ _ _ _ h)
theorem sf7_repeat_L29 {K : xK} {X : xX} {out : xR}  (hX : xOK K X RX7 cX7_repeat 6) (hM : xM K X out none) (hR : xRm X 0 0) (hV : (7, 0) ∈ xvl K) {k10 : xSt → Int32 → Int32 → Int32 → Option xR} (hk10 : ∀ (S : xSt) (i2 : Int32) (i3 : Int32) (i4 : Int32), k10 S i2 i3 i4 = some out → xG K X S 10 [(0, xr K 7 0), (2, .int i2), (3, .int i3), (4, .int i4)] []) : ∀ (n : Nat) (S : xSt) (i2 : Int32) (i3 : Int32) (i4 : Int32) (i5 : Int32) (h : f7_repeat_L29  k10 n S i2 i3 i4 i5 = some out), xG K X S 29 [(0, xr K 7 0), (2, .int i2), (3, .int i3), (4, .int i4), (5, .int i5)] [] := by
  intro n
  induction n with
  | zero => intro S i2 i3 i4 i5 h; cases h
  | succ n ih => intro S i2 i3 i4 i5 h; exact sb7_repeat_L29 hX hM hR hV hk10 ih h
set_option maxRecDepth 100000 in
theorem sb7_repeat_L10 {K : xK} {X : xX} {out : xR}  (hX : xOK K X RX7 cX7_repeat 6) (hM : xM K X out none) (hR : xRm X 0 0) (hV : (7, 0) ∈ xvl K)  {k10 : xSt → Int32 → Int32 → Int32 → Option xR} (hk10 : ∀ (S : xSt) (i2 : Int32) (i3 : Int32) (i4 : Int32), k10 S i2 i3 i4 = some out → xG K X S 10 [(0, xr K 7 0), (2, .int i2), (3, .int i3), (4, .int i4)] []) {S : xSt} {i2 : Int32} {i3 : Int32} {i4 : Int32} (h : b7_repeat_L10   k10 S i2 i3 i4 = some out) : xG K X S 10 [(0, xr K 7 0), (2, .int i2), (3, .int i3), (4, .int i4)] [] := by
  unfold b7_repeat_L10 at h
  refine g_iload hX dX7_repeat_10 3 rfl ?_
  refine g_iload_n hX dX7_repeat_12 rfl 1 rfl ?_
  refine g_icmp_ge hX 87 dX7_repeat_13 (by decide) (fun hc => ?_) (fun hc => ?_)
  · have h := xif_t hc h
    exact g_vret hX hM (Option.some.inj h) dX7_repeat_87
  · have h := xif_f hc h
    refine g_aload_n hX dX7_repeat_16 rfl 0 rfl ?_
    refine g_getI hX hV xf7_119 dX7_repeat_17 ?_
    refine g_sipush (v := (240 : Int32)) hX dX7_repeat_20 (by decide) ?_
    refine g_icmp_gt hX 87 dX7_repeat_23 (by decide) (fun hc => ?_) (fun hc => ?_)
    · have h := xif_t hc h
      exact g_vret hX hM (Option.some.inj h) dX7_repeat_87
    · have h := xif_f hc h
      refine g_iconst (v := (0 : Int32)) hX dX7_repeat_26 (by decide) ?_
      refine g_istore (lv2 := [(5, .int (0 : Int32)), (0, xr K 7 0), (2, .int i2), (3, .int i3), (4, .int i4)]) hX dX7_repeat_27 (by decide) rfl ?_
      exact g_sub [1, 2, 3, 4, 0] (by rfl) (sf7_repeat_L29 hX hM hR hV hk10 _ _ _ _ _ _ h)
theorem sf7_repeat_L10 {K : xK} {X : xX} {out : xR}  (hX : xOK K X RX7 cX7_repeat 6) (hM : xM K X out none) (hR : xRm X 0 0) (hV : (7, 0) ∈ xvl K)  : ∀ (n : Nat) (S : xSt) (i2 : Int32) (i3 : Int32) (i4 : Int32) (h : f7_repeat_L10   n S i2 i3 i4 = some out), xG K X S 10 [(0, xr K 7 0), (2, .int i2), (3, .int i3), (4, .int i4)] [] := by
  intro n
  induction n with
  | zero => intro S i2 i3 i4 h; cases h
  | succ n ih => intro S i2 i3 i4 h; exact sb7_repeat_L10 hX hM hR hV  ih h
set_option maxRecDepth 100000 in
theorem c7_repeat {l : Launch} {K : xK}  (hvc : xVC (xvl K)) (hV : (7, 0) ∈ xvl K) {S : xSt} {a1 : Int32} {a2 : Int32} {out : xR} (h : f7_repeat S  a1 a2 = some out) : xMet l K yX7_repeat cX7_repeat 6 none 0 0 S [xr K 7 0, .int a1, .int a2] out := by
  refine xMet_of RX7 (by decide +kernel) rfl hvc (Nat.le_of_ble_eq_true rfl) ?_
  intro X hX hM hR
  show xG K X S 0 [(0, xr K 7 0), (1, .int a1), (2, .int a2)] []
  unfold f7_repeat at h
  refine g_aload_n hX dX7_repeat_0 rfl 0 rfl ?_
  refine g_getI hX hV xf7_119 dX7_repeat_1 ?_
  refine g_iload_n hX dX7_repeat_4 rfl 1 rfl ?_
  refine g_isub hX dX7_repeat_5 ?_
  refine g_istore_n (lv2 := [(3, .int ((S 7 0 20) - a1)), (0, xr K 7 0), (1, .int a1), (2, .int a2)]) hX dX7_repeat_6 rfl (by decide) rfl ?_
  refine g_iconst (v := (1 : Int32)) hX dX7_repeat_7 (by decide) ?_
  refine g_istore (lv2 := [(4, .int (1 : Int32)), (3, .int ((S 7 0 20) - a1)), (0, xr K 7 0), (1, .int a1), (2, .int a2)]) hX dX7_repeat_8 (by decide) rfl ?_
  exact g_sub [2, 4, 1, 0] (by rfl) (sf7_repeat_L10 hX hM hR hV _ _ _ _ _ h)
set_option maxRecDepth 100000 in
theorem sf7_readPad_J274 {K : xK} {X : xX} {out : xR}  (hX : xOK K X RX7 cX7_readPad 9) (hM : xM K X out (some .int)) (hR : xRm X 1 25) (hV : (7, 0) ∈ xvl K)  {S : xSt}  (h : f7_readPad_J274   S  = some out) : xG K X S 274 [(0, xr K 7 0)] [] := by
  unfold f7_readPad_J274 at h
  refine g_aload_n hX dX7_readPad_274 rfl 0 rfl ?_
  refine g_getI hX hV xf7_122 dX7_readPad_275 ?_
  refine g_goto hX 283 dX7_readPad_278 (by decide) ?_
  exact g_iret hX hM (Option.some.inj h) dX7_readPad_283
set_option maxRecDepth 100000 in
theorem sf7_readPad_J266 {K : xK} {X : xX} {out : xR}  (hX : xOK K X RX7 cX7_readPad 9) (hM : xM K X out (some .int)) (hR : xRm X 1 25) (hV : (7, 0) ∈ xvl K)  {S : xSt} {i1 : Int32} {i3 : Int32} (h : f7_readPad_J266   S i1 i3 = some out) : xG K X S 266 [(0, xr K 7 0), (1, .int i1), (3, .int i3)] [] := by
  unfold f7_readPad_J266 at h
  refine g_iload_n hX dX7_readPad_266 rfl 2 rfl ?_
  refine g_if_ne hX 274 dX7_readPad_267 (by decide) (fun hc => ?_) (fun hc => ?_)
  · have h := xif_f hc h
    exact g_sub [0] (by rfl) (sf7_readPad_J274 hX hM hR hV h)
  · have h := xif_t hc h
    refine g_iload_n hX dX7_readPad_270 rfl 1 rfl ?_
    refine g_if_le hX 281 dX7_readPad_271 (by decide) (fun hc => ?_) (fun hc => ?_)
    · have h := xif_t hc h
      refine g_bipush (v := (-6 : Int32)) hX dX7_readPad_281 (by decide) ?_
      exact g_iret hX hM (Option.some.inj h) dX7_readPad_283
    · have h := xif_f hc h
      exact g_sub [0] (by rfl) (sf7_readPad_J274 hX hM hR hV h)
set_option maxRecDepth 100000 in
theorem sf7_readPad_J260 {K : xK} {X : xX} {out : xR}  (hX : xOK K X RX7 cX7_readPad 9) (hM : xM K X out (some .int)) (hR : xRm X 1 25) (hV : (7, 0) ∈ xvl K) {k14 : xSt → Int32 → Int32 → Int32 → Int32 → Option xR} (hk14 : ∀ (S : xSt) (i1 : Int32) (i2 : Int32) (i3 : Int32) (i4 : Int32), k14 S i1 i2 i3 i4 = some out → xG K X S 14 [(0, xr K 7 0), (1, .int i1), (2, .int i2), (3, .int i3), (4, .int i4)] []) {S : xSt} {i1 : Int32} {i2 : Int32} {i3 : Int32} {i4 : Int32} (h : f7_readPad_J260  k14 S i1 i2 i3 i4 = some out) : xG K X S 260 [(0, xr K 7 0), (1, .int i1), (2, .int i2), (3, .int i3), (4, .int i4)] [] := by
  unfold f7_readPad_J260 at h
  refine g_iinc (v := (i4 + (1 : Int32))) (lv2 := [(4, .int (i4 + (1 : Int32))), (0, xr K 7 0), (1, .int i1), (2, .int i2), (3, .int i3)]) hX dX7_readPad_260 4 rfl rfl (by decide) rfl ?_
  refine g_goto hX 14 dX7_readPad_263 (by decide) ?_
  exact g_sub [1, 2, 3, 4, 0] (by rfl) (hk14 _ _ _ _ _ h)
set_option maxRecDepth 100000 in
theorem sf7_readPad_J220 {K : xK} {X : xX} {out : xR}  (hX : xOK K X RX7 cX7_readPad 9) (hM : xM K X out (some .int)) (hR : xRm X 1 25) (hV : (7, 0) ∈ xvl K) {k14 : xSt → Int32 → Int32 → Int32 → Int32 → Option xR} (hk14 : ∀ (S : xSt) (i1 : Int32) (i2 : Int32) (i3 : Int32) (i4 : Int32), k14 S i1 i2 i3 i4 = some out → xG K X S 14 [(0, xr K 7 0), (1, .int i1), (2, .int i2), (3, .int i3), (4, .int i4)] []) {S : xSt} {i1 : Int32} {i2 : Int32} {i3 : Int32} {i4 : Int32} {i5 : Int32} (h : f7_readPad_J220  k14 S i1 i2 i3 i4 i5 = some out) : xG K X S 220 [(0, xr K 7 0), (1, .int i1), (2, .int i2), (3, .int i3), (4, .int i4), (5, .int i5)] [] := by
  unfold f7_readPad_J220 at h
  refine g_iload hX dX7_readPad_220 5 rfl ?_
  refine g_bipush (v := (41 : Int32)) hX dX7_readPad_222 (by decide) ?_
  refine g_icmp_ne hX 257 dX7_readPad_224 (by decide) (fun hc => ?_) (fun hc => ?_)
  · have h := xif_f hc h
    refine g_iload hX dX7_readPad_257 4 rfl ?_
    exact g_iret hX hM (Option.some.inj h) dX7_readPad_259
  · have h := xif_t hc h
    refine g_iload_n hX dX7_readPad_227 rfl 1 rfl ?_
    refine g_if_le hX 257 dX7_readPad_228 (by decide) (fun hc => ?_) (fun hc => ?_)
    · have h := xif_t hc h
      refine g_iload hX dX7_readPad_257 4 rfl ?_
      exact g_iret hX hM (Option.some.inj h) dX7_readPad_259
    · have h := xif_f hc h
      refine g_iload_n hX dX7_readPad_231 rfl 3 rfl ?_
      refine g_if_ne hX 257 dX7_readPad_232 (by decide) (fun hc => ?_) (fun hc => ?_)
      · have h := xif_f hc h
        refine g_iload hX dX7_readPad_257 4 rfl ?_
        exact g_iret hX hM (Option.some.inj h) dX7_readPad_259
      · have h := xif_t hc h
        refine g_iinc (v := (i1 + (-1 : Int32))) (lv2 := [(1, .int (i1 + (-1 : Int32))), (0, xr K 7 0), (2, .int i2), (3, .int i3), (4, .int i4), (5, .int i5)]) hX dX7_readPad_235 1 rfl rfl (by decide) rfl ?_
        refine g_aload_n hX dX7_readPad_238 rfl 1 rfl ?_
        refine g_aload_n hX dX7_readPad_239 rfl 1 rfl ?_
        refine g_getR hX hV (xf7_56 _) dX7_readPad_240 ?_
        refine g_iload_n hX dX7_readPad_243 rfl 0 rfl ?_
        obtain ⟨hbj1, h⟩ := xat_inv h
        refine g_iald (n := 3) hX (xvc_7_21 hX.vc hV) rfl hbj1 dX7_readPad_244 ?_
        refine g_aload_n hX dX7_readPad_245 rfl 1 rfl ?_
        refine g_getR hX hV (xf7_59 _) dX7_readPad_246 ?_
        refine g_iload_n hX dX7_readPad_249 rfl 0 rfl ?_
        obtain ⟨hbj2, h⟩ := xat_inv h
        refine g_iald (n := 3) hX (xvc_7_22 hX.vc hV) rfl hbj2 dX7_readPad_250 ?_
        obtain ⟨S3, hcS3, h⟩ := xbV_inv h
        refine g_callV hX hR hV (fun l => c7_repeat (l := l) hX.vc hV hcS3) xc7_125 rfl ⟨by decide, by decide⟩ rfl rfl (Nat.le_of_ble_eq_true rfl) dX7_readPad_251 ?_
        refine g_goto hX 260 dX7_readPad_254 (by decide) ?_
        exact g_sub [1, 0, 2, 3, 4] (by rfl) (sf7_readPad_J260 hX hM hR hV hk14 h)
set_option maxRecDepth 100000 in
theorem sf7_readPad_J175 {K : xK} {X : xX} {out : xR}  (hX : xOK K X RX7 cX7_readPad 9) (hM : xM K X out (some .int)) (hR : xRm X 1 25) (hV : (7, 0) ∈ xvl K) {k14 : xSt → Int32 → Int32 → Int32 → Int32 → Option xR} (hk14 : ∀ (S : xSt) (i1 : Int32) (i2 : Int32) (i3 : Int32) (i4 : Int32), k14 S i1 i2 i3 i4 = some out → xG K X S 14 [(0, xr K 7 0), (1, .int i1), (2, .int i2), (3, .int i3), (4, .int i4)] []) {S : xSt} {i1 : Int32} {i2 : Int32} {i3 : Int32} {i4 : Int32} {i5 : Int32} {i6 : Int32} {i7 : Int32} (h : f7_readPad_J175  k14 S i1 i2 i3 i4 i5 i6 i7 = some out) : xG K X S 175 [(0, xr K 7 0), (1, .int i1), (2, .int i2), (3, .int i3), (4, .int i4), (5, .int i5), (6, .int i6), (7, .int i7)] [] := by
  unfold f7_readPad_J175 at h
  refine g_iload hX dX7_readPad_175 5 rfl ?_
  refine g_bipush (v := (40 : Int32)) hX dX7_readPad_177 (by decide) ?_
  refine g_icmp_ne hX 220 dX7_readPad_179 (by decide) (fun hc => ?_) (fun hc => ?_)
  · have h := xif_f hc h
    exact g_sub [0, 1, 2, 3, 4, 5] (by rfl) (sf7_readPad_J220 hX hM hR hV hk14 h)
  · have h := xif_t hc h
    refine g_iload hX dX7_readPad_182 6 rfl ?_
    refine g_if_eq hX 220 dX7_readPad_184 (by decide) (fun hc => ?_) (fun hc => ?_)
    · have h := xif_t hc h
      exact g_sub [0, 1, 2, 3, 4, 5] (by rfl) (sf7_readPad_J220 hX hM hR hV hk14 h)
    · have h := xif_f hc h
      refine g_iload_n hX dX7_readPad_187 rfl 1 rfl ?_
      refine g_iconst (v := (3 : Int32)) hX dX7_readPad_188 (by decide) ?_
      refine g_icmp_ge hX 220 dX7_readPad_189 (by decide) (fun hc => ?_) (fun hc => ?_)
      · have h := xif_t hc h
        exact g_sub [0, 1, 2, 3, 4, 5] (by rfl) (sf7_readPad_J220 hX hM hR hV hk14 h)
      · have h := xif_f hc h
        refine g_aload_n hX dX7_readPad_192 rfl 0 rfl ?_
        refine g_getR hX hV (xf7_56 _) dX7_readPad_193 ?_
        refine g_iload_n hX dX7_readPad_196 rfl 1 rfl ?_
        refine g_aload_n hX dX7_readPad_197 rfl 0 rfl ?_
        refine g_getI hX hV xf7_119 dX7_readPad_198 ?_
        obtain ⟨hbj1, h⟩ := xat_inv h
        obtain ⟨S2, eS2, h⟩ := xlet_inv h
        refine g_iast (n := 3) hX (xvc_7_21 hX.vc hV) (fun _ => rfl) hbj1 dX7_readPad_201 eS2 ?_
        refine g_aload_n hX dX7_readPad_202 rfl 0 rfl ?_
        refine g_getR hX hV (xf7_59 _) dX7_readPad_203 ?_
        refine g_iload_n hX dX7_readPad_206 rfl 1 rfl ?_
        refine g_iload hX dX7_readPad_207 7 rfl ?_
        obtain ⟨hbj3, h⟩ := xat_inv h
        obtain ⟨S4, eS4, h⟩ := xlet_inv h
        refine g_iast (n := 3) hX (xvc_7_22 hX.vc hV) (fun _ => rfl) hbj3 dX7_readPad_209 eS4 ?_
        refine g_iinc (v := (i1 + (1 : Int32))) (lv2 := [(1, .int (i1 + (1 : Int32))), (0, xr K 7 0), (2, .int i2), (3, .int i3), (4, .int i4), (5, .int i5), (6, .int i6), (7, .int i7)]) hX dX7_readPad_210 1 rfl rfl (by decide) rfl ?_
        refine g_iconst (v := (0 : Int32)) hX dX7_readPad_213 (by decide) ?_
        refine g_istore_n (lv2 := [(2, .int (0 : Int32)), (1, .int (i1 + (1 : Int32))), (0, xr K 7 0), (3, .int i3), (4, .int i4), (5, .int i5), (6, .int i6), (7, .int i7)]) hX dX7_readPad_214 rfl (by decide) rfl ?_
        refine g_iconst (v := (1 : Int32)) hX dX7_readPad_215 (by decide) ?_
        refine g_istore_n (lv2 := [(3, .int (1 : Int32)), (2, .int (0 : Int32)), (1, .int (i1 + (1 : Int32))), (0, xr K 7 0), (4, .int i4), (5, .int i5), (6, .int i6), (7, .int i7)]) hX dX7_readPad_216 rfl (by decide) rfl ?_
        refine g_goto hX 260 dX7_readPad_217 (by decide) ?_
        exact g_sub [3, 2, 1, 0, 4] (by rfl) (sf7_readPad_J260 hX hM hR hV hk14 h)
set_option maxRecDepth 100000 in
theorem sf7_readPad_J160 {K : xK} {X : xX} {out : xR}  (hX : xOK K X RX7 cX7_readPad 9) (hM : xM K X out (some .int)) (hR : xRm X 1 25) (hV : (7, 0) ∈ xvl K) {k14 : xSt → Int32 → Int32 → Int32 → Int32 → Option xR} (hk14 : ∀ (S : xSt) (i1 : Int32) (i2 : Int32) (i3 : Int32) (i4 : Int32), k14 S i1 i2 i3 i4 = some out → xG K X S 14 [(0, xr K 7 0), (1, .int i1), (2, .int i2), (3, .int i3), (4, .int i4)] []) {S : xSt} {i1 : Int32} {i4 : Int32} {i7 : Int32} {i8 : Int32} (h : f7_readPad_J160  k14 S i1 i4 i7 i8 = some out) : xG K X S 160 [(0, xr K 7 0), (1, .int i1), (4, .int i4), (7, .int i7), (8, .int i8)] [] := by
  unfold f7_readPad_J160 at h
  refine g_aload_n hX dX7_readPad_160 rfl 0 rfl ?_
  refine g_iload hX dX7_readPad_161 4 rfl ?_
  refine g_iload hX dX7_readPad_163 3 rfl ?_
  obtain ⟨S1, hcS1, h⟩ := xbV_inv h
  refine g_callV hX hR hV (fun l => c7_repeat (l := l) hX.vc hV hcS1) xc7_125 rfl ⟨by decide, by decide⟩ rfl rfl (Nat.le_of_ble_eq_true rfl) dX7_readPad_165 ?_
  refine g_iconst (v := (0 : Int32)) hX dX7_readPad_168 (by decide) ?_
  refine g_istore_n (lv2 := [(2, .int (0 : Int32)), (0, xr K 7 0), (1, .int i1), (4, .int i4), (7, .int i7), (8, .int i8)]) hX dX7_readPad_169 rfl (by decide) rfl ?_
  refine g_iconst (v := (0 : Int32)) hX dX7_readPad_170 (by decide) ?_
  refine g_istore_n (lv2 := [(3, .int (0 : Int32)), (2, .int (0 : Int32)), (0, xr K 7 0), (1, .int i1), (4, .int i4), (7, .int i7), (8, .int i8)]) hX dX7_readPad_171 rfl (by decide) rfl ?_
  refine g_goto hX 260 dX7_readPad_172 (by decide) ?_
  exact g_sub [2, 3, 1, 0, 4] (by rfl) (sf7_readPad_J260 hX hM hR hV hk14 h)
set_option maxRecDepth 100000 in
theorem sf7_readPad_J54 {K : xK} {X : xX} {out : xR}  (hX : xOK K X RX7 cX7_readPad 9) (hM : xM K X out (some .int)) (hR : xRm X 1 25) (hV : (7, 0) ∈ xvl K) {k14 : xSt → Int32 → Int32 → Int32 → Int32 → Option xR} (hk14 : ∀ (S : xSt) (i1 : Int32) (i2 : Int32) (i3 : Int32) (i4 : Int32), k14 S i1 i2 i3 i4 = some out → xG K X S 14 [(0, xr K 7 0), (1, .int i1), (2, .int i2), (3, .int i3), (4, .int i4)] []) {S : xSt} {i1 : Int32} {i2 : Int32} {i3 : Int32} {i4 : Int32} {i5 : Int32} {i6 : Int32} {k0 : Int32} (h : f7_readPad_J54  k14 S i1 i2 i3 i4 i5 i6 k0 = some out) : xG K X S 54 [(0, xr K 7 0), (1, .int i1), (2, .int i2), (3, .int i3), (4, .int i4), (5, .int i5), (6, .int i6)] [.int k0] := by
  unfold f7_readPad_J54 at h
  refine g_istore (lv2 := [(7, .int k0), (0, xr K 7 0), (1, .int i1), (2, .int i2), (3, .int i3), (4, .int i4), (5, .int i5), (6, .int i6)]) hX dX7_readPad_54 (by decide) rfl ?_
  refine g_iload hX dX7_readPad_56 6 rfl ?_
  refine g_bipush (v := (48 : Int32)) hX dX7_readPad_58 (by decide) ?_
  refine g_bipush (v := (57 : Int32)) hX dX7_readPad_60 (by decide) ?_
  obtain ⟨S1, r2, hcS1, h⟩ := xbI_inv h
  refine g_callS hX hR (fun l => c7_in (l := l) hX.vc hcS1) xc7_71 rfl ⟨by decide, by decide⟩ rfl rfl (Nat.le_of_ble_eq_true rfl) dX7_readPad_62 ?_
  refine g_if_eq hX 103 dX7_readPad_65 (by decide) (fun hc => ?_) (fun hc => ?_)
  · have h := xif_t hc h
    refine g_iload hX dX7_readPad_103 6 rfl ?_
    refine g_bipush (v := (97 : Int32)) hX dX7_readPad_105 (by decide) ?_
    refine g_bipush (v := (104 : Int32)) hX dX7_readPad_107 (by decide) ?_
    obtain ⟨S3, r4, hcS3, h⟩ := xbI_inv h
    refine g_callS hX hR (fun l => c7_in (l := l) hX.vc hcS3) xc7_71 rfl ⟨by decide, by decide⟩ rfl rfl (Nat.le_of_ble_eq_true rfl) dX7_readPad_109 ?_
    refine g_if_eq hX 175 dX7_readPad_112 (by decide) (fun hc => ?_) (fun hc => ?_)
    · have h := xif_t hc h
      exact g_sub [1, 2, 3, 4, 5, 6, 7, 0] (by rfl) (sf7_readPad_J175 hX hM hR hV hk14 h)
    · have h := xif_f hc h
      refine g_iload hX dX7_readPad_115 7 rfl ?_
      refine g_if_eq hX 175 dX7_readPad_117 (by decide) (fun hc => ?_) (fun hc => ?_)
      · have h := xif_t hc h
        exact g_sub [1, 2, 3, 4, 5, 6, 7, 0] (by rfl) (sf7_readPad_J175 hX hM hR hV hk14 h)
      · have h := xif_f hc h
        refine g_aload_n hX dX7_readPad_120 rfl 1 rfl ?_
        refine g_getI hX hV xf7_119 dX7_readPad_121 ?_
        refine g_istore (lv2 := [(8, .int (S3 7 0 20)), (7, .int k0), (0, xr K 7 0), (1, .int i1), (2, .int i2), (3, .int i3), (4, .int i4), (5, .int i5), (6, .int i6)]) hX dX7_readPad_124 (by decide) rfl ?_
        refine g_aload_n hX dX7_readPad_126 rfl 2 rfl ?_
        refine g_getI hX hV xf7_119 dX7_readPad_127 ?_
        refine g_sipush (v := (240 : Int32)) hX dX7_readPad_130 (by decide) ?_
        refine g_icmp_gt hX 160 dX7_readPad_133 (by decide) (fun hc => ?_) (fun hc => ?_)
        · have h := xif_t hc h
          exact g_sub [2, 3, 6, 1, 0] (by rfl) (sf7_readPad_J160 hX hM hR hV hk14 h)
        · have h := xif_f hc h
          refine g_aload_n hX dX7_readPad_136 rfl 2 rfl ?_
          refine g_getR hX hV (xf7_53 _) dX7_readPad_137 ?_
          refine g_aload_n hX dX7_readPad_140 rfl 2 rfl ?_
          refine g_getI hX hV xf7_119 dX7_readPad_141 ?_
          refine g_iload hX dX7_readPad_144 7 rfl ?_
          refine g_bipush (v := (97 : Int32)) hX dX7_readPad_146 (by decide) ?_
          refine g_isub hX dX7_readPad_148 ?_
          obtain ⟨hbj5, h⟩ := xat_inv h
          obtain ⟨S6, eS6, h⟩ := xlet_inv h
          refine g_iast (n := 300) hX (xvc_7_19 hX.vc hV) (fun _ => rfl) hbj5 dX7_readPad_149 eS6 ?_
          refine g_aload_n hX dX7_readPad_150 rfl 2 rfl ?_
          refine g_dup hX dX7_readPad_151 rfl ?_
          refine g_getI hX hV xf7_119 dX7_readPad_152 ?_
          refine g_iconst (v := (1 : Int32)) hX dX7_readPad_155 (by decide) ?_
          refine g_iadd hX dX7_readPad_156 ?_
          obtain ⟨S7, eS7, h⟩ := xlet_inv h
          refine g_putI hX hV xf7_119 dX7_readPad_157 eS7 ?_
          exact g_sub [2, 3, 6, 1, 0] (by rfl) (sf7_readPad_J160 hX hM hR hV hk14 h)
  · have h := xif_f hc h
    refine g_bipush (v := (10 : Int32)) hX dX7_readPad_68 (by decide) ?_
    refine g_iload_n hX dX7_readPad_70 rfl 3 rfl ?_
    refine g_imul hX dX7_readPad_71 ?_
    refine g_iload hX dX7_readPad_72 6 rfl ?_
    refine g_iadd hX dX7_readPad_74 ?_
    refine g_bipush (v := (48 : Int32)) hX dX7_readPad_75 (by decide) ?_
    refine g_isub hX dX7_readPad_77 ?_
    refine g_istore (lv2 := [(8, .int ((((10 : Int32) * i2) + i5) - (48 : Int32))), (7, .int k0), (0, xr K 7 0), (1, .int i1), (2, .int i2), (3, .int i3), (4, .int i4), (5, .int i5), (6, .int i6)]) hX dX7_readPad_78 (by decide) rfl ?_
    refine g_iload hX dX7_readPad_80 0 rfl ?_
    refine g_if_eq hX 92 dX7_readPad_82 (by decide) (fun hc => ?_) (fun hc => ?_)
    · have h := xif_t hc h
      refine g_iload hX dX7_readPad_92 6 rfl ?_
      exact g_iret hX hM (Option.some.inj h) dX7_readPad_94
    · have h := xif_f hc h
      refine g_iload hX dX7_readPad_85 0 rfl ?_
      refine g_bipush (v := (60 : Int32)) hX dX7_readPad_87 (by decide) ?_
      refine g_icmp_le hX 95 dX7_readPad_89 (by decide) (fun hc => ?_) (fun hc => ?_)
      · have h := xif_t hc h
        refine g_iload hX dX7_readPad_95 0 rfl ?_
        refine g_istore_n (lv2 := [(2, .int ((((10 : Int32) * i2) + i5) - (48 : Int32))), (8, .int ((((10 : Int32) * i2) + i5) - (48 : Int32))), (7, .int k0), (0, xr K 7 0), (1, .int i1), (3, .int i3), (4, .int i4), (5, .int i5), (6, .int i6)]) hX dX7_readPad_97 rfl (by decide) rfl ?_
        refine g_iconst (v := (1 : Int32)) hX dX7_readPad_98 (by decide) ?_
        refine g_istore_n (lv2 := [(3, .int (1 : Int32)), (2, .int ((((10 : Int32) * i2) + i5) - (48 : Int32))), (8, .int ((((10 : Int32) * i2) + i5) - (48 : Int32))), (7, .int k0), (0, xr K 7 0), (1, .int i1), (4, .int i4), (5, .int i5), (6, .int i6)]) hX dX7_readPad_99 rfl (by decide) rfl ?_
        refine g_goto hX 260 dX7_readPad_100 (by decide) ?_
        exact g_sub [4, 5, 1, 0, 6] (by rfl) (sf7_readPad_J260 hX hM hR hV hk14 h)
      · have h := xif_f hc h
        refine g_iload hX dX7_readPad_92 6 rfl ?_
        exact g_iret hX hM (Option.some.inj h) dX7_readPad_94
set_option maxRecDepth 100000 in
theorem sf7_readPad_J42 {K : xK} {X : xX} {out : xR}  (hX : xOK K X RX7 cX7_readPad 9) (hM : xM K X out (some .int)) (hR : xRm X 1 25) (hV : (7, 0) ∈ xvl K) {k14 : xSt → Int32 → Int32 → Int32 → Int32 → Option xR} (hk14 : ∀ (S : xSt) (i1 : Int32) (i2 : Int32) (i3 : Int32) (i4 : Int32), k14 S i1 i2 i3 i4 = some out → xG K X S 14 [(0, xr K 7 0), (1, .int i1), (2, .int i2), (3, .int i3), (4, .int i4)] []) {S : xSt} {i1 : Int32} {i2 : Int32} {i3 : Int32} {i4 : Int32} {i5 : Int32} {k0 : Int32} (h : f7_readPad_J42  k14 S i1 i2 i3 i4 i5 k0 = some out) : xG K X S 42 [(0, xr K 7 0), (1, .int i1), (2, .int i2), (3, .int i3), (4, .int i4), (5, .int i5)] [.int k0] := by
  unfold f7_readPad_J42 at h
  refine g_istore (lv2 := [(6, .int k0), (0, xr K 7 0), (1, .int i1), (2, .int i2), (3, .int i3), (4, .int i4), (5, .int i5)]) hX dX7_readPad_42 (by decide) rfl ?_
  refine g_iload_n hX dX7_readPad_44 rfl 3 rfl ?_
  refine g_iconst (v := (1 : Int32)) hX dX7_readPad_45 (by decide) ?_
  refine g_icmp_le hX 53 dX7_readPad_46 (by decide) (fun hc => ?_) (fun hc => ?_)
  · have h := xif_t hc h
    refine g_iconst (v := (1 : Int32)) hX dX7_readPad_53 (by decide) ?_
    exact g_sub [1, 2, 3, 4, 5, 6, 0] (by rfl) (sf7_readPad_J54 hX hM hR hV hk14 h)
  · have h := xif_f hc h
    refine g_iload_n hX dX7_readPad_49 rfl 3 rfl ?_
    refine g_goto hX 54 dX7_readPad_50 (by decide) ?_
    exact g_sub [1, 2, 3, 4, 5, 6, 0] (by rfl) (sf7_readPad_J54 hX hM hR hV hk14 h)
set_option maxRecDepth 100000 in
theorem sb7_readPad_L14 {K : xK} {X : xX} {out : xR}  (hX : xOK K X RX7 cX7_readPad 9) (hM : xM K X out (some .int)) (hR : xRm X 1 25) (hV : (7, 0) ∈ xvl K)  {k14 : xSt → Int32 → Int32 → Int32 → Int32 → Option xR} (hk14 : ∀ (S : xSt) (i1 : Int32) (i2 : Int32) (i3 : Int32) (i4 : Int32), k14 S i1 i2 i3 i4 = some out → xG K X S 14 [(0, xr K 7 0), (1, .int i1), (2, .int i2), (3, .int i3), (4, .int i4)] []) {S : xSt} {i1 : Int32} {i2 : Int32} {i3 : Int32} {i4 : Int32} (h : b7_readPad_L14   k14 S i1 i2 i3 i4 = some out) : xG K X S 14 [(0, xr K 7 0), (1, .int i1), (2, .int i2), (3, .int i3), (4, .int i4)] [] := by
  unfold b7_readPad_L14 at h
  refine g_iload hX dX7_readPad_14 4 rfl ?_
  refine g_aload_n hX dX7_readPad_16 rfl 0 rfl ?_
  refine g_getI hX hV xf7_122 dX7_readPad_17 ?_
  refine g_icmp_ge hX 266 dX7_readPad_20 (by decide) (fun hc => ?_) (fun hc => ?_)
  · have h := xif_t hc h
    exact g_sub [0, 1, 3] (by rfl) (sf7_readPad_J266 hX hM hR hV h)
  · have h := xif_f hc h
    refine g_aload_n hX dX7_readPad_23 rfl 0 rfl ?_
    refine g_getR hX hV (xf7_23 _) dX7_readPad_24 ?_
    refine g_iload hX dX7_readPad_27 4 rfl ?_
    obtain ⟨hbj1, h⟩ := xat_inv h
    refine g_iald (n := 80) hX (xvc_7_5 hX.vc hV) rfl hbj1 dX7_readPad_29 ?_
    refine g_istore (lv2 := [(5, .int (S 37 0 (i4).toNatClampNeg)), (0, xr K 7 0), (1, .int i1), (2, .int i2), (3, .int i3), (4, .int i4)]) hX dX7_readPad_30 (by decide) rfl ?_
    refine g_iload_n hX dX7_readPad_32 rfl 3 rfl ?_
    refine g_iconst (v := (1 : Int32)) hX dX7_readPad_33 (by decide) ?_
    refine g_icmp_eq hX 41 dX7_readPad_34 (by decide) (fun hc => ?_) (fun hc => ?_)
    · have h := xif_t hc h
      refine g_iconst (v := (0 : Int32)) hX dX7_readPad_41 (by decide) ?_
      exact g_sub [1, 2, 3, 4, 5, 0] (by rfl) (sf7_readPad_J42 hX hM hR hV hk14 h)
    · have h := xif_f hc h
      refine g_iconst (v := (1 : Int32)) hX dX7_readPad_37 (by decide) ?_
      refine g_goto hX 42 dX7_readPad_38 (by decide) ?_
      exact g_sub [1, 2, 3, 4, 5, 0] (by rfl) (sf7_readPad_J42 hX hM hR hV hk14 h)
theorem sf7_readPad_L14 {K : xK} {X : xX} {out : xR}  (hX : xOK K X RX7 cX7_readPad 9) (hM : xM K X out (some .int)) (hR : xRm X 1 25) (hV : (7, 0) ∈ xvl K)  : ∀ (n : Nat) (S : xSt) (i1 : Int32) (i2 : Int32) (i3 : Int32) (i4 : Int32) (h : f7_readPad_L14   n S i1 i2 i3 i4 = some out), xG K X S 14 [(0, xr K 7 0), (1, .int i1), (2, .int i2), (3, .int i3), (4, .int i4)] [] := by
  intro n
  induction n with
  | zero => intro S i1 i2 i3 i4 h; cases h
  | succ n ih => intro S i1 i2 i3 i4 h; exact sb7_readPad_L14 hX hM hR hV  ih h
set_option maxRecDepth 100000 in
theorem c7_readPad {l : Launch} {K : xK}  (hvc : xVC (xvl K)) (hV : (7, 0) ∈ xvl K) {S : xSt}  {out : xR} (h : f7_readPad S   = some out) : xMet l K yX7_readPad cX7_readPad 9 (some .int) 1 25 S [xr K 7 0] out := by
  refine xMet_of RX7 (by decide +kernel) rfl hvc (Nat.le_of_ble_eq_true rfl) ?_
  intro X hX hM hR
  show xG K X S 0 [(0, xr K 7 0)] []
  unfold f7_readPad at h
  refine g_aload_n hX dX7_readPad_0 rfl 0 rfl ?_
  refine g_iconst (v := (0 : Int32)) hX dX7_readPad_1 (by decide) ?_
  obtain ⟨S1, eS1, h⟩ := xlet_inv h
  refine g_putI hX hV xf7_119 dX7_readPad_2 eS1 ?_
  refine g_iconst (v := (0 : Int32)) hX dX7_readPad_5 (by decide) ?_
  refine g_istore_n (lv2 := [(1, .int (0 : Int32)), (0, xr K 7 0)]) hX dX7_readPad_6 rfl (by decide) rfl ?_
  refine g_iconst (v := (0 : Int32)) hX dX7_readPad_7 (by decide) ?_
  refine g_istore_n (lv2 := [(2, .int (0 : Int32)), (1, .int (0 : Int32)), (0, xr K 7 0)]) hX dX7_readPad_8 rfl (by decide) rfl ?_
  refine g_iconst (v := (1 : Int32)) hX dX7_readPad_9 (by decide) ?_
  refine g_istore_n (lv2 := [(3, .int (1 : Int32)), (2, .int (0 : Int32)), (1, .int (0 : Int32)), (0, xr K 7 0)]) hX dX7_readPad_10 rfl (by decide) rfl ?_
  refine g_iconst (v := (0 : Int32)) hX dX7_readPad_11 (by decide) ?_
  refine g_istore (lv2 := [(4, .int (0 : Int32)), (3, .int (1 : Int32)), (2, .int (0 : Int32)), (1, .int (0 : Int32)), (0, xr K 7 0)]) hX dX7_readPad_12 (by decide) rfl ?_
  exact g_sub [4, 3, 2, 1, 0] (by rfl) (sf7_readPad_L14 hX hM hR hV _ _ _ _ _ _ h)
set_option maxRecDepth 100000 in
theorem sf7_put_J122 {K : xK} {X : xX} {out : xR}  (hX : xOK K X RX7 cX7_put 7) (hM : xM K X out (some .int)) (hR : xRm X 1 22) (hV : (7, 0) ∈ xvl K)  {S : xSt} {i3 : Int32} (h : f7_put_J122   S i3 = some out) : xG K X S 122 [(0, xr K 7 0), (3, .int i3)] [] := by
  unfold f7_put_J122 at h
  refine g_aload_n hX dX7_put_122 rfl 0 rfl ?_
  refine g_dup hX dX7_put_123 rfl ?_
  refine g_getI hX hV xf7_122 dX7_put_124 ?_
  refine g_iload_n hX dX7_put_127 rfl 1 rfl ?_
  refine g_iadd hX dX7_put_128 ?_
  obtain ⟨S1, eS1, h⟩ := xlet_inv h
  refine g_putI hX hV xf7_122 dX7_put_129 eS1 ?_
  refine g_aload_n hX dX7_put_132 rfl 0 rfl ?_
  refine g_getI hX hV xf7_122 dX7_put_133 ?_
  exact g_iret hX hM (Option.some.inj h) dX7_put_136
set_option maxRecDepth 100000 in
theorem sb7_put_L85 {K : xK} {X : xX} {out : xR}  (hX : xOK K X RX7 cX7_put 7) (hM : xM K X out (some .int)) (hR : xRm X 1 22) (hV : (7, 0) ∈ xvl K)  {k85 : xSt → Int32 → Int64 → Int32 → Option xR} (hk85 : ∀ (S : xSt) (i3 : Int32) (i4 : Int64) (i6 : Int32), k85 S i3 i4 i6 = some out → xG K X S 85 [(0, xr K 7 0), (3, .int i3), (4, .long i4), (6, .int i6)] []) {S : xSt} {i3 : Int32} {i4 : Int64} {i6 : Int32} (h : b7_put_L85   k85 S i3 i4 i6 = some out) : xG K X S 85 [(0, xr K 7 0), (3, .int i3), (4, .long i4), (6, .int i6)] [] := by
  unfold b7_put_L85 at h
  refine g_iload hX dX7_put_85 3 rfl ?_
  refine g_if_lt hX 122 dX7_put_87 (by decide) (fun hc => ?_) (fun hc => ?_)
  · have h := xif_t hc h
    exact g_sub [0, 1] (by rfl) (sf7_put_J122 hX hM hR hV h)
  · have h := xif_f hc h
    refine g_aload_n hX dX7_put_90 rfl 0 rfl ?_
    refine g_getR hX hV (xf7_23 _) dX7_put_91 ?_
    refine g_aload_n hX dX7_put_94 rfl 0 rfl ?_
    refine g_getI hX hV xf7_122 dX7_put_95 ?_
    refine g_iload hX dX7_put_98 3 rfl ?_
    refine g_iadd hX dX7_put_100 ?_
    refine g_lload hX dX7_put_101 2 rfl ?_
    refine g_ldc2 (v := (255 : Int64)) hX dX7_put_103 xk7_128 ?_
    refine g_land hX dX7_put_106 ?_
    refine g_l2i hX dX7_put_107 ?_
    obtain ⟨hbj1, h⟩ := xat_inv h
    obtain ⟨S2, eS2, h⟩ := xlet_inv h
    refine g_iast (n := 80) hX (xvc_7_5 hX.vc hV) (fun _ => rfl) hbj1 dX7_put_108 eS2 ?_
    refine g_lload hX dX7_put_109 2 rfl ?_
    refine g_bipush (v := (8 : Int32)) hX dX7_put_111 (by decide) ?_
    refine g_lushr hX dX7_put_113 ?_
    refine g_lstore (lv2 := [(4, .long (i4.toUInt64 >>> ((8 : Int32).toInt64.toUInt64 &&& Int64.toUInt64 63)).toInt64), (0, xr K 7 0), (3, .int i3), (6, .int i6)]) hX dX7_put_114 (by decide) rfl ?_
    refine g_iinc (v := (i6 + (-1 : Int32))) (lv2 := [(6, .int (i6 + (-1 : Int32))), (4, .long (i4.toUInt64 >>> ((8 : Int32).toInt64.toUInt64 &&& Int64.toUInt64 63)).toInt64), (0, xr K 7 0), (3, .int i3)]) hX dX7_put_116 3 rfl rfl (by decide) rfl ?_
    refine g_goto hX 85 dX7_put_119 (by decide) ?_
    exact g_sub [2, 3, 1, 0] (by rfl) (hk85 _ _ _ _ h)
theorem sf7_put_L85 {K : xK} {X : xX} {out : xR}  (hX : xOK K X RX7 cX7_put 7) (hM : xM K X out (some .int)) (hR : xRm X 1 22) (hV : (7, 0) ∈ xvl K)  : ∀ (n : Nat) (S : xSt) (i3 : Int32) (i4 : Int64) (i6 : Int32) (h : f7_put_L85   n S i3 i4 i6 = some out), xG K X S 85 [(0, xr K 7 0), (3, .int i3), (4, .long i4), (6, .int i6)] [] := by
  intro n
  induction n with
  | zero => intro S i3 i4 i6 h; cases h
  | succ n ih => intro S i3 i4 i6 h; exact sb7_put_L85 hX hM hR hV  ih h
set_option maxRecDepth 100000 in
theorem sf7_put_J49 {K : xK} {X : xX} {out : xR}  (hX : xOK K X RX7 cX7_put 7) (hM : xM K X out (some .int)) (hR : xRm X 1 22) (hV : (7, 0) ∈ xvl K)  {S : xSt} {i1 : Int64} {i3 : Int32} {i4 : Int64} (h : f7_put_J49   S i1 i3 i4 = some out) : xG K X S 49 [(0, xr K 7 0), (1, .long i1), (3, .int i3), (4, .long i4)] [] := by
  unfold f7_put_J49 at h
  refine g_lload hX dX7_put_49 3 rfl ?_
  refine g_lconst (v := (0 : Int64)) hX dX7_put_51 (by decide) ?_
  refine g_lcmp hX dX7_put_52 ?_
  refine g_if_ne hX 60 dX7_put_53 (by decide) (fun hc => ?_) (fun hc => ?_)
  · have h := xif_f hc h
    refine g_bipush (v := (-2 : Int32)) hX dX7_put_60 (by decide) ?_
    exact g_iret hX hM (Option.some.inj h) dX7_put_62
  · have h := xif_t hc h
    refine g_iload_n hX dX7_put_56 rfl 2 rfl ?_
    refine g_if_ne hX 63 dX7_put_57 (by decide) (fun hc => ?_) (fun hc => ?_)
    · have h := xif_f hc h
      refine g_aload_n hX dX7_put_63 rfl 0 rfl ?_
      refine g_getI hX hV xf7_122 dX7_put_64 ?_
      refine g_iload_n hX dX7_put_67 rfl 2 rfl ?_
      refine g_iadd hX dX7_put_68 ?_
      refine g_bipush (v := (80 : Int32)) hX dX7_put_69 (by decide) ?_
      refine g_icmp_le hX 77 dX7_put_71 (by decide) (fun hc => ?_) (fun hc => ?_)
      · have h := xif_t hc h
        refine g_lload_n hX dX7_put_77 rfl 1 rfl ?_
        refine g_lstore (lv2 := [(4, .long i1), (0, xr K 7 0), (1, .long i1), (3, .int i3)]) hX dX7_put_78 (by decide) rfl ?_
        refine g_iload_n hX dX7_put_80 rfl 3 rfl ?_
        refine g_iconst (v := (1 : Int32)) hX dX7_put_81 (by decide) ?_
        refine g_isub hX dX7_put_82 ?_
        refine g_istore (lv2 := [(6, .int (i3 - (1 : Int32))), (4, .long i1), (0, xr K 7 0), (1, .long i1), (3, .int i3)]) hX dX7_put_83 (by decide) rfl ?_
        exact g_sub [2, 4, 1, 0] (by rfl) (sf7_put_L85 hX hM hR hV _ _ _ _ _ h)
      · have h := xif_f hc h
        refine g_bipush (v := (-4 : Int32)) hX dX7_put_74 (by decide) ?_
        exact g_iret hX hM (Option.some.inj h) dX7_put_76
    · have h := xif_t hc h
      refine g_bipush (v := (-2 : Int32)) hX dX7_put_60 (by decide) ?_
      exact g_iret hX hM (Option.some.inj h) dX7_put_62
set_option maxRecDepth 100000 in
theorem sb7_put_L5 {K : xK} {X : xX} {out : xR}  (hX : xOK K X RX7 cX7_put 7) (hM : xM K X out (some .int)) (hR : xRm X 1 22) (hV : (7, 0) ∈ xvl K)  {k5 : xSt → Int64 → Int32 → Int64 → Option xR} (hk5 : ∀ (S : xSt) (i1 : Int64) (i3 : Int32) (i4 : Int64), k5 S i1 i3 i4 = some out → xG K X S 5 [(0, xr K 7 0), (1, .long i1), (3, .int i3), (4, .long i4)] []) {S : xSt} {i1 : Int64} {i3 : Int32} {i4 : Int64} (h : b7_put_L5   k5 S i1 i3 i4 = some out) : xG K X S 5 [(0, xr K 7 0), (1, .long i1), (3, .int i3), (4, .long i4)] [] := by
  unfold b7_put_L5 at h
  refine g_lload hX dX7_put_5 3 rfl ?_
  refine g_ldc2 (v := (255 : Int64)) hX dX7_put_7 xk7_128 ?_
  refine g_land hX dX7_put_10 ?_
  refine g_lconst (v := (0 : Int64)) hX dX7_put_11 (by decide) ?_
  refine g_lcmp hX dX7_put_12 ?_
  refine g_if_eq hX 49 dX7_put_13 (by decide) (fun hc => ?_) (fun hc => ?_)
  · have h := xif_t hc h
    exact sf7_put_J49 hX hM hR hV h
  · have h := xif_f hc h
    refine g_lload hX dX7_put_16 3 rfl ?_
    refine g_ldc2 (v := (255 : Int64)) hX dX7_put_18 xk7_128 ?_
    refine g_land hX dX7_put_21 ?_
    refine g_l2i hX dX7_put_22 ?_
    refine g_bipush (v := (33 : Int32)) hX dX7_put_23 (by decide) ?_
    refine g_bipush (v := (126 : Int32)) hX dX7_put_25 (by decide) ?_
    obtain ⟨S1, r2, hcS1, h⟩ := xbI_inv h
    refine g_callS hX hR (fun l => c7_in (l := l) hX.vc hcS1) xc7_71 rfl ⟨by decide, by decide⟩ rfl rfl (Nat.le_of_ble_eq_true rfl) dX7_put_27 ?_
    refine g_if_ne hX 36 dX7_put_30 (by decide) (fun hc => ?_) (fun hc => ?_)
    · have h := xif_f hc h
      refine g_iinc (v := (i3 + (1 : Int32))) (lv2 := [(3, .int (i3 + (1 : Int32))), (0, xr K 7 0), (1, .long i1), (4, .long i4)]) hX dX7_put_36 2 rfl rfl (by decide) rfl ?_
      refine g_lload hX dX7_put_39 3 rfl ?_
      refine g_bipush (v := (8 : Int32)) hX dX7_put_41 (by decide) ?_
      refine g_lushr hX dX7_put_43 ?_
      refine g_lstore (lv2 := [(4, .long (i4.toUInt64 >>> ((8 : Int32).toInt64.toUInt64 &&& Int64.toUInt64 63)).toInt64), (3, .int (i3 + (1 : Int32))), (0, xr K 7 0), (1, .long i1)]) hX dX7_put_44 (by decide) rfl ?_
      refine g_goto hX 5 dX7_put_46 (by decide) ?_
      exact g_sub [2, 3, 1, 0] (by rfl) (hk5 _ _ _ _ h)
    · have h := xif_t hc h
      refine g_bipush (v := (-2 : Int32)) hX dX7_put_33 (by decide) ?_
      exact g_iret hX hM (Option.some.inj h) dX7_put_35
theorem sf7_put_L5 {K : xK} {X : xX} {out : xR}  (hX : xOK K X RX7 cX7_put 7) (hM : xM K X out (some .int)) (hR : xRm X 1 22) (hV : (7, 0) ∈ xvl K)  : ∀ (n : Nat) (S : xSt) (i1 : Int64) (i3 : Int32) (i4 : Int64) (h : f7_put_L5   n S i1 i3 i4 = some out), xG K X S 5 [(0, xr K 7 0), (1, .long i1), (3, .int i3), (4, .long i4)] [] := by
  intro n
  induction n with
  | zero => intro S i1 i3 i4 h; cases h
  | succ n ih => intro S i1 i3 i4 h; exact sb7_put_L5 hX hM hR hV  ih h
set_option maxRecDepth 100000 in
theorem c7_put {l : Launch} {K : xK}  (hvc : xVC (xvl K)) (hV : (7, 0) ∈ xvl K) {S : xSt} {a1 : Int64} {out : xR} (h : f7_put S  a1 = some out) : xMet l K yX7_put cX7_put 7 (some .int) 1 22 S [xr K 7 0, .long a1] out := by
  refine xMet_of RX7 (by decide +kernel) rfl hvc (Nat.le_of_ble_eq_true rfl) ?_
  intro X hX hM hR
  show xG K X S 0 [(0, xr K 7 0), (1, .long a1)] []
  unfold f7_put at h
  refine g_iconst (v := (0 : Int32)) hX dX7_put_0 (by decide) ?_
  refine g_istore_n (lv2 := [(3, .int (0 : Int32)), (0, xr K 7 0), (1, .long a1)]) hX dX7_put_1 rfl (by decide) rfl ?_
  refine g_lload_n hX dX7_put_2 rfl 2 rfl ?_
  refine g_lstore (lv2 := [(4, .long a1), (3, .int (0 : Int32)), (0, xr K 7 0), (1, .long a1)]) hX dX7_put_3 (by decide) rfl ?_
  exact g_sub [2, 3, 1, 0] (by rfl) (sf7_put_L5 hX hM hR hV _ _ _ _ _ h)
set_option maxRecDepth 100000 in
theorem c7_wipe {l : Launch} {K : xK}  (hvc : xVC (xvl K)) (hV : (7, 0) ∈ xvl K) {S : xSt}  {out : xR} (h : f7_wipe S   = some out) : xMet l K yX7_wipe cX7_wipe 2 (some .int) 0 0 S [xr K 7 0] out := by
  refine xMet_of RX7 (by decide +kernel) rfl hvc (Nat.le_of_ble_eq_true rfl) ?_
  intro X hX hM hR
  show xG K X S 0 [(0, xr K 7 0)] []
  unfold f7_wipe at h
  refine g_aload_n hX dX7_wipe_0 rfl 0 rfl ?_
  refine g_getI hX hV xf7_122 dX7_wipe_1 ?_
  refine g_istore_n (lv2 := [(1, .int (S 7 0 6)), (0, xr K 7 0)]) hX dX7_wipe_4 rfl (by decide) rfl ?_
  refine g_aload_n hX dX7_wipe_5 rfl 1 rfl ?_
  refine g_iconst (v := (0 : Int32)) hX dX7_wipe_6 (by decide) ?_
  obtain ⟨S1, eS1, h⟩ := xlet_inv h
  refine g_putI hX hV xf7_122 dX7_wipe_7 eS1 ?_
  refine g_iload_n hX dX7_wipe_10 rfl 0 rfl ?_
  exact g_iret hX hM (Option.some.inj h) dX7_wipe_11
set_option maxRecDepth 100000 in
theorem c7_fault {l : Launch} {K : xK}  (hvc : xVC (xvl K)) (hV : (7, 0) ∈ xvl K) {S : xSt}  {out : xR} (h : f7_fault S   = some out) : xMet l K yX7_fault cX7_fault 1 (some .int) 2 53 S [xr K 7 0] out := by
  refine xMet_of RX7 (by decide +kernel) rfl hvc (Nat.le_of_ble_eq_true rfl) ?_
  intro X hX hM hR
  show xG K X S 0 [(0, xr K 7 0)] []
  unfold f7_fault at h
  refine g_aload_n hX dX7_fault_0 rfl 0 rfl ?_
  obtain ⟨S1, r2, hcS1, h⟩ := xbI_inv h
  refine g_callV hX hR hV (fun l => c7_readPad (l := l) hX.vc hV hcS1) xc7_130 rfl ⟨by decide, by decide⟩ rfl rfl (Nat.le_of_ble_eq_true rfl) dX7_fault_1 ?_
  exact g_iret hX hM (Option.some.inj h) dX7_fault_4
set_option maxRecDepth 100000 in
theorem sf7_load_J74 {K : xK} {X : xX} {out : xR}  (hX : xOK K X RX7 cX7_load 2) (hM : xM K X out (some .int)) (hR : xRm X 2 53) (hV : (7, 0) ∈ xvl K)  {S : xSt}  (h : f7_load_J74   S  = some out) : xG K X S 74 [(0, xr K 7 0)] [] := by
  unfold f7_load_J74 at h
  refine g_aload_n hX dX7_load_74 rfl 0 rfl ?_
  refine g_getR hX hV (xf7_7 _) dX7_load_75 ?_
  refine g_iconst (v := (3 : Int32)) hX dX7_load_78 (by decide) ?_
  refine g_dup2 hX dX7_load_79 rfl rfl ?_
  obtain ⟨hbj1, h⟩ := xat_inv h
  refine g_iald (n := 560) hX (xvc_7_0 hX.vc hV) rfl hbj1 dX7_load_80 ?_
  refine g_aload_n hX dX7_load_81 rfl 0 rfl ?_
  refine g_getI hX hV xf7_119 dX7_load_82 ?_
  refine g_iadd hX dX7_load_85 ?_
  obtain ⟨hbj2, h⟩ := xat_inv h
  obtain ⟨S3, eS3, h⟩ := xlet_inv h
  refine g_iast (n := 560) hX (xvc_7_0 hX.vc hV) (fun _ => rfl) hbj2 dX7_load_86 eS3 ?_
  refine g_aload_n hX dX7_load_87 rfl 0 rfl ?_
  obtain ⟨S4, hcS4, h⟩ := xbV_inv h
  refine g_callV hX hR hV (fun l => c7_mend (l := l) hX.vc hV hcS4) xc7_82 rfl ⟨by decide, by decide⟩ rfl rfl (Nat.le_of_ble_eq_true rfl) dX7_load_88 ?_
  refine g_aload_n hX dX7_load_91 rfl 0 rfl ?_
  refine g_iconst (v := (0 : Int32)) hX dX7_load_92 (by decide) ?_
  obtain ⟨S5, eS5, h⟩ := xlet_inv h
  refine g_putI hX hV xf7_122 dX7_load_93 eS5 ?_
  refine g_aload_n hX dX7_load_96 rfl 0 rfl ?_
  refine g_getR hX hV (xf7_7 _) dX7_load_97 ?_
  refine g_iconst (v := (3 : Int32)) hX dX7_load_100 (by decide) ?_
  obtain ⟨hbj6, h⟩ := xat_inv h
  refine g_iald (n := 560) hX (xvc_7_0 hX.vc hV) rfl hbj6 dX7_load_101 ?_
  exact g_iret hX hM (Option.some.inj h) dX7_load_102
set_option maxRecDepth 100000 in
theorem sb7_load_L38 {K : xK} {X : xX} {out : xR}  (hX : xOK K X RX7 cX7_load 2) (hM : xM K X out (some .int)) (hR : xRm X 2 53) (hV : (7, 0) ∈ xvl K)  {k38 : xSt → Int32 → Option xR} (hk38 : ∀ (S : xSt) (i1 : Int32), k38 S i1 = some out → xG K X S 38 [(0, xr K 7 0), (1, .int i1)] []) {S : xSt} {i1 : Int32} (h : b7_load_L38   k38 S i1 = some out) : xG K X S 38 [(0, xr K 7 0), (1, .int i1)] [] := by
  unfold b7_load_L38 at h
  refine g_iload_n hX dX7_load_38 rfl 1 rfl ?_
  refine g_aload_n hX dX7_load_39 rfl 0 rfl ?_
  refine g_getI hX hV xf7_119 dX7_load_40 ?_
  refine g_icmp_ge hX 74 dX7_load_43 (by decide) (fun hc => ?_) (fun hc => ?_)
  · have h := xif_t hc h
    exact g_sub [0] (by rfl) (sf7_load_J74 hX hM hR hV h)
  · have h := xif_f hc h
    refine g_aload_n hX dX7_load_46 rfl 0 rfl ?_
    refine g_getR hX hV (xf7_7 _) dX7_load_47 ?_
    refine g_bipush (v := (10 : Int32)) hX dX7_load_50 (by decide) ?_
    refine g_aload_n hX dX7_load_52 rfl 0 rfl ?_
    refine g_getR hX hV (xf7_7 _) dX7_load_53 ?_
    refine g_iconst (v := (3 : Int32)) hX dX7_load_56 (by decide) ?_
    obtain ⟨hbj1, h⟩ := xat_inv h
    refine g_iald (n := 560) hX (xvc_7_0 hX.vc hV) rfl hbj1 dX7_load_57 ?_
    refine g_iadd hX dX7_load_58 ?_
    refine g_iload_n hX dX7_load_59 rfl 1 rfl ?_
    refine g_iadd hX dX7_load_60 ?_
    refine g_aload_n hX dX7_load_61 rfl 0 rfl ?_
    refine g_getR hX hV (xf7_53 _) dX7_load_62 ?_
    refine g_iload_n hX dX7_load_65 rfl 1 rfl ?_
    obtain ⟨hbj2, h⟩ := xat_inv h
    refine g_iald (n := 300) hX (xvc_7_19 hX.vc hV) rfl hbj2 dX7_load_66 ?_
    obtain ⟨hbj3, h⟩ := xat_inv h
    obtain ⟨S4, eS4, h⟩ := xlet_inv h
    refine g_iast (n := 560) hX (xvc_7_0 hX.vc hV) (fun _ => rfl) hbj3 dX7_load_67 eS4 ?_
    refine g_iinc (v := (i1 + (1 : Int32))) (lv2 := [(1, .int (i1 + (1 : Int32))), (0, xr K 7 0)]) hX dX7_load_68 1 rfl rfl (by decide) rfl ?_
    refine g_goto hX 38 dX7_load_71 (by decide) ?_
    exact g_sub [1, 0] (by rfl) (hk38 _ _ h)
theorem sf7_load_L38 {K : xK} {X : xX} {out : xR}  (hX : xOK K X RX7 cX7_load 2) (hM : xM K X out (some .int)) (hR : xRm X 2 53) (hV : (7, 0) ∈ xvl K)  : ∀ (n : Nat) (S : xSt) (i1 : Int32) (h : f7_load_L38   n S i1 = some out), xG K X S 38 [(0, xr K 7 0), (1, .int i1)] [] := by
  intro n
  induction n with
  | zero => intro S i1 h; cases h
  | succ n ih => intro S i1 h; exact sb7_load_L38 hX hM hR hV  ih h
set_option maxRecDepth 100000 in
theorem c7_load {l : Launch} {K : xK}  (hvc : xVC (xvl K)) (hV : (7, 0) ∈ xvl K) {S : xSt}  {out : xR} (h : f7_load S   = some out) : xMet l K yX7_load cX7_load 2 (some .int) 2 53 S [xr K 7 0] out := by
  refine xMet_of RX7 (by decide +kernel) rfl hvc (Nat.le_of_ble_eq_true rfl) ?_
  intro X hX hM hR
  show xG K X S 0 [(0, xr K 7 0)] []
  unfold f7_load at h
  refine g_aload_n hX dX7_load_0 rfl 0 rfl ?_
  obtain ⟨S1, r2, hcS1, h⟩ := xbI_inv h
  refine g_callV hX hR hV (fun l => c7_readPad (l := l) hX.vc hV hcS1) xc7_130 rfl ⟨by decide, by decide⟩ rfl rfl (Nat.le_of_ble_eq_true rfl) dX7_load_1 ?_
  refine g_bipush (v := (-6 : Int32)) hX dX7_load_4 (by decide) ?_
  refine g_icmp_eq hX 12 dX7_load_6 (by decide) (fun hc => ?_) (fun hc => ?_)
  · have h := xif_t hc h
    refine g_aload_n hX dX7_load_12 rfl 0 rfl ?_
    refine g_getR hX hV (xf7_7 _) dX7_load_13 ?_
    refine g_iconst (v := (3 : Int32)) hX dX7_load_16 (by decide) ?_
    obtain ⟨hbj3, h⟩ := xat_inv h
    refine g_iald (n := 560) hX (xvc_7_0 hX.vc hV) rfl hbj3 dX7_load_17 ?_
    refine g_aload_n hX dX7_load_18 rfl 0 rfl ?_
    refine g_getI hX hV xf7_119 dX7_load_19 ?_
    refine g_iadd hX dX7_load_22 ?_
    refine g_sipush (v := (240 : Int32)) hX dX7_load_23 (by decide) ?_
    refine g_icmp_le hX 32 dX7_load_26 (by decide) (fun hc => ?_) (fun hc => ?_)
    · have h := xif_t hc h
      refine g_aload_n hX dX7_load_32 rfl 0 rfl ?_
      obtain ⟨S4, hcS4, h⟩ := xbV_inv h
      refine g_callV hX hR hV (fun l => c7_record (l := l) hX.vc hV hcS4) xc7_79 rfl ⟨by decide, by decide⟩ rfl rfl (Nat.le_of_ble_eq_true rfl) dX7_load_33 ?_
      refine g_iconst (v := (0 : Int32)) hX dX7_load_36 (by decide) ?_
      refine g_istore_n (lv2 := [(1, .int (0 : Int32)), (0, xr K 7 0)]) hX dX7_load_37 rfl (by decide) rfl ?_
      exact g_sub [1, 0] (by rfl) (sf7_load_L38 hX hM hR hV _ _ _ h)
    · have h := xif_f hc h
      refine g_bipush (v := (-4 : Int32)) hX dX7_load_29 (by decide) ?_
      exact g_iret hX hM (Option.some.inj h) dX7_load_31
  · have h := xif_f hc h
    refine g_bipush (v := (-3 : Int32)) hX dX7_load_9 (by decide) ?_
    exact g_iret hX hM (Option.some.inj h) dX7_load_11
set_option maxRecDepth 100000 in
theorem c7_sign {l : Launch} {K : xK}  (hvc : xVC (xvl K)) (hV : (7, 0) ∈ xvl K) {S : xSt} {a1 : Int32} {out : xR} (h : f7_sign S  a1 = some out) : xMet l K yX7_sign cX7_sign 2 (some .int) 1 22 S [xr K 7 0, .int a1] out := by
  refine xMet_of RX7 (by decide +kernel) rfl hvc (Nat.le_of_ble_eq_true rfl) ?_
  intro X hX hM hR
  show xG K X S 0 [(0, xr K 7 0), (1, .int a1)] []
  unfold f7_sign at h
  refine g_iload_n hX dX7_sign_0 rfl 1 rfl ?_
  refine g_iconst (v := (0 : Int32)) hX dX7_sign_1 (by decide) ?_
  refine g_aload_n hX dX7_sign_2 rfl 0 rfl ?_
  refine g_getR hX hV (xf7_7 _) dX7_sign_3 ?_
  refine g_iconst (v := (3 : Int32)) hX dX7_sign_6 (by decide) ?_
  obtain ⟨hbj1, h⟩ := xat_inv h
  refine g_iald (n := 560) hX (xvc_7_0 hX.vc hV) rfl hbj1 dX7_sign_7 ?_
  refine g_iconst (v := (1 : Int32)) hX dX7_sign_8 (by decide) ?_
  refine g_isub hX dX7_sign_9 ?_
  obtain ⟨S2, r3, hcS2, h⟩ := xbI_inv h
  refine g_callS hX hR (fun l => c7_in (l := l) hX.vc hcS2) xc7_71 rfl ⟨by decide, by decide⟩ rfl rfl (Nat.le_of_ble_eq_true rfl) dX7_sign_10 ?_
  refine g_if_eq hX 28 dX7_sign_13 (by decide) (fun hc => ?_) (fun hc => ?_)
  · have h := xif_t hc h
    refine g_iconst (v := (-1 : Int32)) hX dX7_sign_28 (by decide) ?_
    exact g_iret hX hM (Option.some.inj h) dX7_sign_29
  · have h := xif_f hc h
    refine g_aload_n hX dX7_sign_16 rfl 0 rfl ?_
    refine g_getR hX hV (xf7_7 _) dX7_sign_17 ?_
    refine g_bipush (v := (10 : Int32)) hX dX7_sign_20 (by decide) ?_
    refine g_iload_n hX dX7_sign_22 rfl 1 rfl ?_
    refine g_iadd hX dX7_sign_23 ?_
    obtain ⟨hbj4, h⟩ := xat_inv h
    refine g_iald (n := 560) hX (xvc_7_0 hX.vc hV) rfl hbj4 dX7_sign_24 ?_
    refine g_goto hX 29 dX7_sign_25 (by decide) ?_
    exact g_iret hX hM (Option.some.inj h) dX7_sign_29
set_option maxRecDepth 100000 in
theorem c7_ofCode {l : Launch} {K : xK}  (hvc : xVC (xvl K)) (hV : (7, 0) ∈ xvl K) {S : xSt} {a1 : Int32} {a2 : Int32} {out : xR} (h : f7_ofCode S  a1 a2 = some out) : xMet l K yX7_ofCode cX7_ofCode 3 (some .int) 3 73 S [xr K 7 0, .int a1, .int a2] out := by
  refine xMet_of RX7 (by decide +kernel) rfl hvc (Nat.le_of_ble_eq_true rfl) ?_
  intro X hX hM hR
  show xG K X S 0 [(0, xr K 7 0), (1, .int a1), (2, .int a2)] []
  unfold f7_ofCode at h
  refine g_aload_n hX dX7_ofCode_0 rfl 0 rfl ?_
  obtain ⟨S1, hcS1, h⟩ := xbV_inv h
  refine g_callV hX hR hV (fun l => c7_writeNow (l := l) hX.vc hV hcS1) xc7_116 rfl ⟨by decide, by decide⟩ rfl rfl (Nat.le_of_ble_eq_true rfl) dX7_ofCode_1 ?_
  refine g_iload_n hX dX7_ofCode_4 rfl 1 rfl ?_
  refine g_iconst (v := (0 : Int32)) hX dX7_ofCode_5 (by decide) ?_
  refine g_aload_n hX dX7_ofCode_6 rfl 0 rfl ?_
  refine g_getI hX hV xf7_88 dX7_ofCode_7 ?_
  refine g_iconst (v := (1 : Int32)) hX dX7_ofCode_10 (by decide) ?_
  refine g_isub hX dX7_ofCode_11 ?_
  obtain ⟨S2, r3, hcS2, h⟩ := xbI_inv h
  refine g_callS hX hR (fun l => c7_in (l := l) hX.vc hcS2) xc7_71 rfl ⟨by decide, by decide⟩ rfl rfl (Nat.le_of_ble_eq_true rfl) dX7_ofCode_12 ?_
  refine g_if_ne hX 20 dX7_ofCode_15 (by decide) (fun hc => ?_) (fun hc => ?_)
  · have h := xif_f hc h
    refine g_iload_n hX dX7_ofCode_20 rfl 2 rfl ?_
    by_cases hc : a2.toInt < 0 ∨ 4 < a2.toInt
    · have h := xif_t hc h
      refine g_tsOut hX 102 dX7_ofCode_21 hc (by decide) ?_
      refine g_iload_n hX dX7_ofCode_102 rfl 2 rfl ?_
      refine g_iconst (v := (5 : Int32)) hX dX7_ofCode_103 (by decide) ?_
      refine g_icmp_ne hX 116 dX7_ofCode_104 (by decide) (fun hc => ?_) (fun hc => ?_)
      · have h := xif_f hc h
        refine g_bipush (v := (-2 : Int32)) hX dX7_ofCode_116 (by decide) ?_
        exact g_iret hX hM (Option.some.inj h) dX7_ofCode_118
      · have h := xif_t hc h
        refine g_aload_n hX dX7_ofCode_107 rfl 0 rfl ?_
        refine g_getR hX hV (xf7_50 _) dX7_ofCode_108 ?_
        refine g_iload_n hX dX7_ofCode_111 rfl 1 rfl ?_
        obtain ⟨hbj4, h⟩ := xat_inv h
        refine g_iald (n := 300) hX (xvc_7_16 hX.vc hV) rfl hbj4 dX7_ofCode_112 ?_
        refine g_goto hX 118 dX7_ofCode_113 (by decide) ?_
        exact g_iret hX hM (Option.some.inj h) dX7_ofCode_118
    have h := xif_f hc h
    generalize hn : (a2.toInt - 0).toNat = n at h
    match n, hn, h with
    | 0, hn, h =>
      refine g_tsIn hX 56 dX7_ofCode_21 hc 0 hn (by rfl) (by decide) ?_
      refine g_aload_n hX dX7_ofCode_56 rfl 0 rfl ?_
      refine g_getR hX hV (xf7_38 _) dX7_ofCode_57 ?_
      refine g_iload_n hX dX7_ofCode_60 rfl 1 rfl ?_
      obtain ⟨hbj5, h⟩ := xat_inv h
      refine g_iald (n := 300) hX (xvc_7_12 hX.vc hV) rfl hbj5 dX7_ofCode_61 ?_
      exact g_iret hX hM (Option.some.inj h) dX7_ofCode_62
    | 1, hn, h =>
      refine g_tsIn hX 63 dX7_ofCode_21 hc 1 hn (by rfl) (by decide) ?_
      refine g_aload_n hX dX7_ofCode_63 rfl 0 rfl ?_
      refine g_getR hX hV (xf7_38 _) dX7_ofCode_64 ?_
      refine g_iload_n hX dX7_ofCode_67 rfl 1 rfl ?_
      obtain ⟨hbj6, h⟩ := xat_inv h
      refine g_iald (n := 300) hX (xvc_7_12 hX.vc hV) rfl hbj6 dX7_ofCode_68 ?_
      refine g_aload_n hX dX7_ofCode_69 rfl 0 rfl ?_
      refine g_getR hX hV (xf7_7 _) dX7_ofCode_70 ?_
      refine g_sipush (v := (250 : Int32)) hX dX7_ofCode_73 (by decide) ?_
      refine g_iload_n hX dX7_ofCode_76 rfl 1 rfl ?_
      refine g_iadd hX dX7_ofCode_77 ?_
      obtain ⟨hbj7, h⟩ := xat_inv h
      refine g_iald (n := 560) hX (xvc_7_0 hX.vc hV) rfl hbj7 dX7_ofCode_78 ?_
      refine g_ixor hX dX7_ofCode_79 ?_
      exact g_iret hX hM (Option.some.inj h) dX7_ofCode_80
    | 2, hn, h =>
      refine g_tsIn hX 81 dX7_ofCode_21 hc 2 hn (by rfl) (by decide) ?_
      refine g_aload_n hX dX7_ofCode_81 rfl 0 rfl ?_
      refine g_getR hX hV (xf7_41 _) dX7_ofCode_82 ?_
      refine g_iload_n hX dX7_ofCode_85 rfl 1 rfl ?_
      obtain ⟨hbj8, h⟩ := xat_inv h
      refine g_iald (n := 300) hX (xvc_7_13 hX.vc hV) rfl hbj8 dX7_ofCode_86 ?_
      exact g_iret hX hM (Option.some.inj h) dX7_ofCode_87
    | 3, hn, h =>
      refine g_tsIn hX 88 dX7_ofCode_21 hc 3 hn (by rfl) (by decide) ?_
      refine g_aload_n hX dX7_ofCode_88 rfl 0 rfl ?_
      refine g_getR hX hV (xf7_44 _) dX7_ofCode_89 ?_
      refine g_iload_n hX dX7_ofCode_92 rfl 1 rfl ?_
      obtain ⟨hbj9, h⟩ := xat_inv h
      refine g_iald (n := 300) hX (xvc_7_14 hX.vc hV) rfl hbj9 dX7_ofCode_93 ?_
      exact g_iret hX hM (Option.some.inj h) dX7_ofCode_94
    | 4, hn, h =>
      refine g_tsIn hX 95 dX7_ofCode_21 hc 4 hn (by rfl) (by decide) ?_
      refine g_aload_n hX dX7_ofCode_95 rfl 0 rfl ?_
      refine g_getR hX hV (xf7_47 _) dX7_ofCode_96 ?_
      refine g_iload_n hX dX7_ofCode_99 rfl 1 rfl ?_
      obtain ⟨hbj10, h⟩ := xat_inv h
      refine g_iald (n := 300) hX (xvc_7_15 hX.vc hV) rfl hbj10 dX7_ofCode_100 ?_
      exact g_iret hX hM (Option.some.inj h) dX7_ofCode_101
    | n + 5, hn, h => cases h
  · have h := xif_t hc h
    refine g_iconst (v := (-1 : Int32)) hX dX7_ofCode_18 (by decide) ?_
    exact g_iret hX hM (Option.some.inj h) dX7_ofCode_19
set_option maxRecDepth 100000 in
theorem sf7_clears_J29 {K : xK} {X : xX} {out : xR}  (hX : xOK K X RX7 cX7_clears 3) (hM : xM K X out (some .int)) (hR : xRm X 0 0) (hV : (7, 0) ∈ xvl K) {k4 : xSt → Int32 → Int32 → Option xR} (hk4 : ∀ (S : xSt) (i1 : Int32) (i2 : Int32), k4 S i1 i2 = some out → xG K X S 4 [(0, xr K 7 0), (1, .int i1), (2, .int i2)] []) {S : xSt} {i2 : Int32} {k0 : Int32} {k1 : Int32} (h : f7_clears_J29  k4 S i2 k0 k1 = some out) : xG K X S 29 [(0, xr K 7 0), (2, .int i2)] [.int k0, .int k1] := by
  unfold f7_clears_J29 at h
  refine g_iadd hX dX7_clears_29 ?_
  refine g_istore_n (lv2 := [(1, .int (k1 + k0)), (0, xr K 7 0), (2, .int i2)]) hX dX7_clears_30 rfl (by decide) rfl ?_
  refine g_iinc (v := (i2 + (1 : Int32))) (lv2 := [(2, .int (i2 + (1 : Int32))), (1, .int (k1 + k0)), (0, xr K 7 0)]) hX dX7_clears_31 2 rfl rfl (by decide) rfl ?_
  refine g_goto hX 4 dX7_clears_34 (by decide) ?_
  exact g_sub [2, 1, 0] (by rfl) (hk4 _ _ _ h)
set_option maxRecDepth 100000 in
theorem sb7_clears_L4 {K : xK} {X : xX} {out : xR}  (hX : xOK K X RX7 cX7_clears 3) (hM : xM K X out (some .int)) (hR : xRm X 0 0) (hV : (7, 0) ∈ xvl K)  {k4 : xSt → Int32 → Int32 → Option xR} (hk4 : ∀ (S : xSt) (i1 : Int32) (i2 : Int32), k4 S i1 i2 = some out → xG K X S 4 [(0, xr K 7 0), (1, .int i1), (2, .int i2)] []) {S : xSt} {i1 : Int32} {i2 : Int32} (h : b7_clears_L4   k4 S i1 i2 = some out) : xG K X S 4 [(0, xr K 7 0), (1, .int i1), (2, .int i2)] [] := by
  unfold b7_clears_L4 at h
  refine g_iload_n hX dX7_clears_4 rfl 2 rfl ?_
  refine g_aload_n hX dX7_clears_5 rfl 0 rfl ?_
  refine g_getI hX hV xf7_88 dX7_clears_6 ?_
  refine g_icmp_ge hX 37 dX7_clears_9 (by decide) (fun hc => ?_) (fun hc => ?_)
  · have h := xif_t hc h
    refine g_iload_n hX dX7_clears_37 rfl 1 rfl ?_
    exact g_iret hX hM (Option.some.inj h) dX7_clears_38
  · have h := xif_f hc h
    refine g_iload_n hX dX7_clears_12 rfl 1 rfl ?_
    refine g_aload_n hX dX7_clears_13 rfl 0 rfl ?_
    refine g_getR hX hV (xf7_38 _) dX7_clears_14 ?_
    refine g_iload_n hX dX7_clears_17 rfl 2 rfl ?_
    obtain ⟨hbj1, h⟩ := xat_inv h
    refine g_iald (n := 300) hX (xvc_7_12 hX.vc hV) rfl hbj1 dX7_clears_18 ?_
    refine g_bipush (v := (8 : Int32)) hX dX7_clears_19 (by decide) ?_
    refine g_icmp_ne hX 28 dX7_clears_21 (by decide) (fun hc => ?_) (fun hc => ?_)
    · have h := xif_f hc h
      refine g_iconst (v := (0 : Int32)) hX dX7_clears_28 (by decide) ?_
      exact g_sub [0, 2] (by rfl) (sf7_clears_J29 hX hM hR hV hk4 h)
    · have h := xif_t hc h
      refine g_iconst (v := (1 : Int32)) hX dX7_clears_24 (by decide) ?_
      refine g_goto hX 29 dX7_clears_25 (by decide) ?_
      exact g_sub [0, 2] (by rfl) (sf7_clears_J29 hX hM hR hV hk4 h)
theorem sf7_clears_L4 {K : xK} {X : xX} {out : xR}  (hX : xOK K X RX7 cX7_clears 3) (hM : xM K X out (some .int)) (hR : xRm X 0 0) (hV : (7, 0) ∈ xvl K)  : ∀ (n : Nat) (S : xSt) (i1 : Int32) (i2 : Int32) (h : f7_clears_L4   n S i1 i2 = some out), xG K X S 4 [(0, xr K 7 0), (1, .int i1), (2, .int i2)] [] := by
  intro n
  induction n with
  | zero => intro S i1 i2 h; cases h
  | succ n ih => intro S i1 i2 h; exact sb7_clears_L4 hX hM hR hV  ih h
set_option maxRecDepth 100000 in
theorem c7_clears {l : Launch} {K : xK}  (hvc : xVC (xvl K)) (hV : (7, 0) ∈ xvl K) {S : xSt}  {out : xR} (h : f7_clears S   = some out) : xMet l K yX7_clears cX7_clears 3 (some .int) 0 0 S [xr K 7 0] out := by
  refine xMet_of RX7 (by decide +kernel) rfl hvc (Nat.le_of_ble_eq_true rfl) ?_
  intro X hX hM hR
  show xG K X S 0 [(0, xr K 7 0)] []
  unfold f7_clears at h
  refine g_iconst (v := (0 : Int32)) hX dX7_clears_0 (by decide) ?_
  refine g_istore_n (lv2 := [(1, .int (0 : Int32)), (0, xr K 7 0)]) hX dX7_clears_1 rfl (by decide) rfl ?_
  refine g_iconst (v := (0 : Int32)) hX dX7_clears_2 (by decide) ?_
  refine g_istore_n (lv2 := [(2, .int (0 : Int32)), (1, .int (0 : Int32)), (0, xr K 7 0)]) hX dX7_clears_3 rfl (by decide) rfl ?_
  exact g_sub [2, 1, 0] (by rfl) (sf7_clears_L4 hX hM hR hV _ _ _ _ h)
set_option maxRecDepth 100000 in
theorem sf7_spoiled_J28 {K : xK} {X : xX} {out : xR}  (hX : xOK K X RX7 cX7_spoiled 3) (hM : xM K X out (some .int)) (hR : xRm X 0 0) (hV : (7, 0) ∈ xvl K) {k6 : xSt → Int32 → Int32 → Option xR} (hk6 : ∀ (S : xSt) (i1 : Int32) (i2 : Int32), k6 S i1 i2 = some out → xG K X S 6 [(0, xr K 7 0), (1, .int i1), (2, .int i2)] []) {S : xSt} {i2 : Int32} {k0 : Int32} {k1 : Int32} (h : f7_spoiled_J28  k6 S i2 k0 k1 = some out) : xG K X S 28 [(0, xr K 7 0), (2, .int i2)] [.int k0, .int k1] := by
  unfold f7_spoiled_J28 at h
  refine g_iadd hX dX7_spoiled_28 ?_
  refine g_istore_n (lv2 := [(1, .int (k1 + k0)), (0, xr K 7 0), (2, .int i2)]) hX dX7_spoiled_29 rfl (by decide) rfl ?_
  refine g_iinc (v := (i2 + (1 : Int32))) (lv2 := [(2, .int (i2 + (1 : Int32))), (1, .int (k1 + k0)), (0, xr K 7 0)]) hX dX7_spoiled_30 2 rfl rfl (by decide) rfl ?_
  refine g_goto hX 6 dX7_spoiled_33 (by decide) ?_
  exact g_sub [2, 1, 0] (by rfl) (hk6 _ _ _ h)
set_option maxRecDepth 100000 in
theorem sb7_spoiled_L6 {K : xK} {X : xX} {out : xR}  (hX : xOK K X RX7 cX7_spoiled 3) (hM : xM K X out (some .int)) (hR : xRm X 0 0) (hV : (7, 0) ∈ xvl K)  {k6 : xSt → Int32 → Int32 → Option xR} (hk6 : ∀ (S : xSt) (i1 : Int32) (i2 : Int32), k6 S i1 i2 = some out → xG K X S 6 [(0, xr K 7 0), (1, .int i1), (2, .int i2)] []) {S : xSt} {i1 : Int32} {i2 : Int32} (h : b7_spoiled_L6   k6 S i1 i2 = some out) : xG K X S 6 [(0, xr K 7 0), (1, .int i1), (2, .int i2)] [] := by
  unfold b7_spoiled_L6 at h
  refine g_iload_n hX dX7_spoiled_6 rfl 2 rfl ?_
  refine g_sipush (v := (560 : Int32)) hX dX7_spoiled_7 (by decide) ?_
  refine g_icmp_ge hX 36 dX7_spoiled_10 (by decide) (fun hc => ?_) (fun hc => ?_)
  · have h := xif_t hc h
    refine g_iload_n hX dX7_spoiled_36 rfl 1 rfl ?_
    exact g_iret hX hM (Option.some.inj h) dX7_spoiled_37
  · have h := xif_f hc h
    refine g_iload_n hX dX7_spoiled_13 rfl 1 rfl ?_
    refine g_aload_n hX dX7_spoiled_14 rfl 0 rfl ?_
    refine g_getR hX hV (xf7_7 _) dX7_spoiled_15 ?_
    refine g_iload_n hX dX7_spoiled_18 rfl 2 rfl ?_
    obtain ⟨hbj1, h⟩ := xat_inv h
    refine g_iald (n := 560) hX (xvc_7_0 hX.vc hV) rfl hbj1 dX7_spoiled_19 ?_
    refine g_if_eq hX 27 dX7_spoiled_20 (by decide) (fun hc => ?_) (fun hc => ?_)
    · have h := xif_t hc h
      refine g_iconst (v := (0 : Int32)) hX dX7_spoiled_27 (by decide) ?_
      exact g_sub [0, 2] (by rfl) (sf7_spoiled_J28 hX hM hR hV hk6 h)
    · have h := xif_f hc h
      refine g_iconst (v := (1 : Int32)) hX dX7_spoiled_23 (by decide) ?_
      refine g_goto hX 28 dX7_spoiled_24 (by decide) ?_
      exact g_sub [0, 2] (by rfl) (sf7_spoiled_J28 hX hM hR hV hk6 h)
theorem sf7_spoiled_L6 {K : xK} {X : xX} {out : xR}  (hX : xOK K X RX7 cX7_spoiled 3) (hM : xM K X out (some .int)) (hR : xRm X 0 0) (hV : (7, 0) ∈ xvl K)  : ∀ (n : Nat) (S : xSt) (i1 : Int32) (i2 : Int32) (h : f7_spoiled_L6   n S i1 i2 = some out), xG K X S 6 [(0, xr K 7 0), (1, .int i1), (2, .int i2)] [] := by
  intro n
  induction n with
  | zero => intro S i1 i2 h; cases h
  | succ n ih => intro S i1 i2 h; exact sb7_spoiled_L6 hX hM hR hV  ih h
set_option maxRecDepth 100000 in
theorem c7_spoiled {l : Launch} {K : xK}  (hvc : xVC (xvl K)) (hV : (7, 0) ∈ xvl K) {S : xSt}  {out : xR} (h : f7_spoiled S   = some out) : xMet l K yX7_spoiled cX7_spoiled 3 (some .int) 0 0 S [xr K 7 0] out := by
  refine xMet_of RX7 (by decide +kernel) rfl hvc (Nat.le_of_ble_eq_true rfl) ?_
  intro X hX hM hR
  show xG K X S 0 [(0, xr K 7 0)] []
  unfold f7_spoiled at h
  refine g_iconst (v := (0 : Int32)) hX dX7_spoiled_0 (by decide) ?_
  refine g_istore_n (lv2 := [(1, .int (0 : Int32)), (0, xr K 7 0)]) hX dX7_spoiled_1 rfl (by decide) rfl ?_
  refine g_sipush (v := (250 : Int32)) hX dX7_spoiled_2 (by decide) ?_
  refine g_istore_n (lv2 := [(2, .int (250 : Int32)), (1, .int (0 : Int32)), (0, xr K 7 0)]) hX dX7_spoiled_5 rfl (by decide) rfl ?_
  exact g_sub [2, 1, 0] (by rfl) (sf7_spoiled_L6 hX hM hR hV _ _ _ _ h)
set_option maxRecDepth 100000 in
theorem c7_count {l : Launch} {K : xK}  (hvc : xVC (xvl K)) (hV : (7, 0) ∈ xvl K) {S : xSt} {a1 : Int32} {out : xR} (h : f7_count S  a1 = some out) : xMet l K yX7_count cX7_count 2 (some .int) 3 73 S [xr K 7 0, .int a1] out := by
  refine xMet_of RX7 (by decide +kernel) rfl hvc (Nat.le_of_ble_eq_true rfl) ?_
  intro X hX hM hR
  show xG K X S 0 [(0, xr K 7 0), (1, .int a1)] []
  unfold f7_count at h
  refine g_iload_n hX dX7_count_0 rfl 1 rfl ?_
  refine g_bipush (v := (9 : Int32)) hX dX7_count_1 (by decide) ?_
  refine g_bipush (v := (11 : Int32)) hX dX7_count_3 (by decide) ?_
  obtain ⟨S1, r2, hcS1, h⟩ := xbI_inv h
  refine g_callS hX hR (fun l => c7_in (l := l) hX.vc hcS1) xc7_71 rfl ⟨by decide, by decide⟩ rfl rfl (Nat.le_of_ble_eq_true rfl) dX7_count_5 ?_
  refine g_if_eq hX 21 dX7_count_8 (by decide) (fun hc => ?_) (fun hc => ?_)
  · have h := xif_t hc h
    refine g_aload_n hX dX7_count_21 rfl 0 rfl ?_
    obtain ⟨S3, hcS3, h⟩ := xbV_inv h
    refine g_callV hX hR hV (fun l => c7_writeNow (l := l) hX.vc hV hcS3) xc7_116 rfl ⟨by decide, by decide⟩ rfl rfl (Nat.le_of_ble_eq_true rfl) dX7_count_22 ?_
    refine g_iload_n hX dX7_count_25 rfl 1 rfl ?_
    by_cases hc : a1.toInt < 0 ∨ 7 < a1.toInt
    · have h := xif_t hc h
      refine g_tsOut hX 114 dX7_count_26 hc (by decide) ?_
      refine g_iload_n hX dX7_count_114 rfl 1 rfl ?_
      refine g_bipush (v := (8 : Int32)) hX dX7_count_115 (by decide) ?_
      refine g_icmp_ne hX 127 dX7_count_117 (by decide) (fun hc => ?_) (fun hc => ?_)
      · have h := xif_f hc h
        refine g_bipush (v := (-2 : Int32)) hX dX7_count_127 (by decide) ?_
        exact g_iret hX hM (Option.some.inj h) dX7_count_129
      · have h := xif_t hc h
        refine g_aload_n hX dX7_count_120 rfl 0 rfl ?_
        refine g_getI hX hV xf7_67 dX7_count_121 ?_
        refine g_goto hX 129 dX7_count_124 (by decide) ?_
        exact g_iret hX hM (Option.some.inj h) dX7_count_129
    have h := xif_f hc h
    generalize hn : (a1.toInt - 0).toNat = n at h
    match n, hn, h with
    | 0, hn, h =>
      refine g_tsIn hX 72 dX7_count_26 hc 0 hn (by rfl) (by decide) ?_
      refine g_aload_n hX dX7_count_72 rfl 0 rfl ?_
      refine g_getR hX hV (xf7_7 _) dX7_count_73 ?_
      refine g_iconst (v := (3 : Int32)) hX dX7_count_76 (by decide) ?_
      obtain ⟨hbj4, h⟩ := xat_inv h
      refine g_iald (n := 560) hX (xvc_7_0 hX.vc hV) rfl hbj4 dX7_count_77 ?_
      exact g_iret hX hM (Option.some.inj h) dX7_count_78
    | 1, hn, h =>
      refine g_tsIn hX 79 dX7_count_26 hc 1 hn (by rfl) (by decide) ?_
      refine g_aload_n hX dX7_count_79 rfl 0 rfl ?_
      refine g_getI hX hV xf7_88 dX7_count_80 ?_
      exact g_iret hX hM (Option.some.inj h) dX7_count_83
    | 2, hn, h =>
      refine g_tsIn hX 84 dX7_count_26 hc 2 hn (by rfl) (by decide) ?_
      refine g_aload_n hX dX7_count_84 rfl 0 rfl ?_
      obtain ⟨S5, r6, hcS5, h⟩ := xbI_inv h
      refine g_callV hX hR hV (fun l => c7_bits (l := l) hX.vc hV hcS5) xc7_134 rfl ⟨by decide, by decide⟩ rfl rfl (Nat.le_of_ble_eq_true rfl) dX7_count_85 ?_
      exact g_iret hX hM (Option.some.inj h) dX7_count_88
    | 3, hn, h =>
      refine g_tsIn hX 89 dX7_count_26 hc 3 hn (by rfl) (by decide) ?_
      refine g_aload_n hX dX7_count_89 rfl 0 rfl ?_
      obtain ⟨S7, r8, hcS7, h⟩ := xbI_inv h
      refine g_callV hX hR hV (fun l => c7_clears (l := l) hX.vc hV hcS7) xc7_137 rfl ⟨by decide, by decide⟩ rfl rfl (Nat.le_of_ble_eq_true rfl) dX7_count_90 ?_
      exact g_iret hX hM (Option.some.inj h) dX7_count_93
    | 4, hn, h =>
      refine g_tsIn hX 94 dX7_count_26 hc 4 hn (by rfl) (by decide) ?_
      refine g_aload_n hX dX7_count_94 rfl 0 rfl ?_
      refine g_getI hX hV xf7_85 dX7_count_95 ?_
      exact g_iret hX hM (Option.some.inj h) dX7_count_98
    | 5, hn, h =>
      refine g_tsIn hX 99 dX7_count_26 hc 5 hn (by rfl) (by decide) ?_
      refine g_aload_n hX dX7_count_99 rfl 0 rfl ?_
      refine g_getI hX hV xf7_91 dX7_count_100 ?_
      exact g_iret hX hM (Option.some.inj h) dX7_count_103
    | 6, hn, h =>
      refine g_tsIn hX 104 dX7_count_26 hc 6 hn (by rfl) (by decide) ?_
      refine g_aload_n hX dX7_count_104 rfl 0 rfl ?_
      obtain ⟨S9, r10, hcS9, h⟩ := xbI_inv h
      refine g_callV hX hR hV (fun l => c7_spoiled (l := l) hX.vc hV hcS9) xc7_140 rfl ⟨by decide, by decide⟩ rfl rfl (Nat.le_of_ble_eq_true rfl) dX7_count_105 ?_
      exact g_iret hX hM (Option.some.inj h) dX7_count_108
    | 7, hn, h =>
      refine g_tsIn hX 109 dX7_count_26 hc 7 hn (by rfl) (by decide) ?_
      refine g_aload_n hX dX7_count_109 rfl 0 rfl ?_
      refine g_getI hX hV xf7_122 dX7_count_110 ?_
      exact g_iret hX hM (Option.some.inj h) dX7_count_113
    | n + 8, hn, h => cases h
  · have h := xif_f hc h
    refine g_aload_n hX dX7_count_11 rfl 0 rfl ?_
    refine g_getR hX hV (xf7_7 _) dX7_count_12 ?_
    refine g_iload_n hX dX7_count_15 rfl 1 rfl ?_
    refine g_bipush (v := (9 : Int32)) hX dX7_count_16 (by decide) ?_
    refine g_isub hX dX7_count_18 ?_
    obtain ⟨hbj11, h⟩ := xat_inv h
    refine g_iald (n := 560) hX (xvc_7_0 hX.vc hV) rfl hbj11 dX7_count_19 ?_
    exact g_iret hX hM (Option.some.inj h) dX7_count_20
set_option maxRecDepth 100000 in
theorem c7_entry {l : Launch} {K : xK}  (hvc : xVC (xvl K)) (hV : (7, 0) ∈ xvl K) {S : xSt} {a1 : Int32} {a2 : Int32} {out : xR} (h : f7_entry S  a1 a2 = some out) : xMet l K yX7_entry cX7_entry 3 (some .int) 3 73 S [xr K 7 0, .int a1, .int a2] out := by
  refine xMet_of RX7 (by decide +kernel) rfl hvc (Nat.le_of_ble_eq_true rfl) ?_
  intro X hX hM hR
  show xG K X S 0 [(0, xr K 7 0), (1, .int a1), (2, .int a2)] []
  unfold f7_entry at h
  refine g_aload_n hX dX7_entry_0 rfl 0 rfl ?_
  obtain ⟨S1, hcS1, h⟩ := xbV_inv h
  refine g_callV hX hR hV (fun l => c7_writeNow (l := l) hX.vc hV hcS1) xc7_116 rfl ⟨by decide, by decide⟩ rfl rfl (Nat.le_of_ble_eq_true rfl) dX7_entry_1 ?_
  refine g_iload_n hX dX7_entry_4 rfl 1 rfl ?_
  refine g_iconst (v := (0 : Int32)) hX dX7_entry_5 (by decide) ?_
  refine g_aload_n hX dX7_entry_6 rfl 0 rfl ?_
  refine g_getI hX hV xf7_85 dX7_entry_7 ?_
  refine g_iconst (v := (1 : Int32)) hX dX7_entry_10 (by decide) ?_
  refine g_isub hX dX7_entry_11 ?_
  obtain ⟨S2, r3, hcS2, h⟩ := xbI_inv h
  refine g_callS hX hR (fun l => c7_in (l := l) hX.vc hcS2) xc7_71 rfl ⟨by decide, by decide⟩ rfl rfl (Nat.le_of_ble_eq_true rfl) dX7_entry_12 ?_
  refine g_if_ne hX 20 dX7_entry_15 (by decide) (fun hc => ?_) (fun hc => ?_)
  · have h := xif_f hc h
    refine g_iload_n hX dX7_entry_20 rfl 2 rfl ?_
    refine g_if_ne hX 33 dX7_entry_21 (by decide) (fun hc => ?_) (fun hc => ?_)
    · have h := xif_f hc h
      refine g_iload_n hX dX7_entry_33 rfl 2 rfl ?_
      refine g_iconst (v := (1 : Int32)) hX dX7_entry_34 (by decide) ?_
      refine g_icmp_ne hX 47 dX7_entry_35 (by decide) (fun hc => ?_) (fun hc => ?_)
      · have h := xif_f hc h
        refine g_iload_n hX dX7_entry_47 rfl 2 rfl ?_
        refine g_iconst (v := (2 : Int32)) hX dX7_entry_48 (by decide) ?_
        refine g_icmp_ne hX 61 dX7_entry_49 (by decide) (fun hc => ?_) (fun hc => ?_)
        · have h := xif_f hc h
          refine g_bipush (v := (-2 : Int32)) hX dX7_entry_61 (by decide) ?_
          exact g_iret hX hM (Option.some.inj h) dX7_entry_63
        · have h := xif_t hc h
          refine g_aload_n hX dX7_entry_52 rfl 0 rfl ?_
          refine g_getR hX hV (xf7_26 _) dX7_entry_53 ?_
          refine g_iload_n hX dX7_entry_56 rfl 1 rfl ?_
          obtain ⟨hbj4, h⟩ := xat_inv h
          refine g_iald (n := 512) hX (xvc_7_7 hX.vc hV) rfl hbj4 dX7_entry_57 ?_
          refine g_goto hX 63 dX7_entry_58 (by decide) ?_
          exact g_iret hX hM (Option.some.inj h) dX7_entry_63
      · have h := xif_t hc h
        refine g_aload_n hX dX7_entry_38 rfl 0 rfl ?_
        refine g_getR hX hV (xf7_29 _) dX7_entry_39 ?_
        refine g_iload_n hX dX7_entry_42 rfl 1 rfl ?_
        obtain ⟨hbj5, h⟩ := xat_inv h
        refine g_iald (n := 512) hX (xvc_7_8 hX.vc hV) rfl hbj5 dX7_entry_43 ?_
        refine g_goto hX 63 dX7_entry_44 (by decide) ?_
        exact g_iret hX hM (Option.some.inj h) dX7_entry_63
    · have h := xif_t hc h
      refine g_aload_n hX dX7_entry_24 rfl 0 rfl ?_
      refine g_getR hX hV (xf7_35 _) dX7_entry_25 ?_
      refine g_iload_n hX dX7_entry_28 rfl 1 rfl ?_
      obtain ⟨hbj6, h⟩ := xat_inv h
      refine g_iald (n := 512) hX (xvc_7_10 hX.vc hV) rfl hbj6 dX7_entry_29 ?_
      refine g_goto hX 63 dX7_entry_30 (by decide) ?_
      exact g_iret hX hM (Option.some.inj h) dX7_entry_63
  · have h := xif_t hc h
    refine g_iconst (v := (-1 : Int32)) hX dX7_entry_18 (by decide) ?_
    exact g_iret hX hM (Option.some.inj h) dX7_entry_19
set_option maxRecDepth 100000 in
theorem sf7_say_J50 {K : xK} {X : xX} {out : xR}  (hX : xOK K X RX7 cX7_say 4) (hM : xM K X out none) (hR : xRm X 0 0) (hV : (7, 0) ∈ xvl K)  {S : xSt} {i1 : Int32} (h : f7_say_J50   S i1 = some out) : xG K X S 50 [(0, xr K 7 0), (1, .int i1)] [] := by
  unfold f7_say_J50 at h
  refine g_aload_n hX dX7_say_50 rfl 0 rfl ?_
  refine g_dup hX dX7_say_51 rfl ?_
  refine g_getI hX hV xf7_143 dX7_say_52 ?_
  refine g_aload_n hX dX7_say_55 rfl 0 rfl ?_
  refine g_getR hX hV (xf7_35 _) dX7_say_56 ?_
  refine g_iload_n hX dX7_say_59 rfl 1 rfl ?_
  obtain ⟨hbj1, h⟩ := xat_inv h
  refine g_iald (n := 512) hX (xvc_7_10 hX.vc hV) rfl hbj1 dX7_say_60 ?_
  refine g_iadd hX dX7_say_61 ?_
  obtain ⟨S2, eS2, h⟩ := xlet_inv h
  refine g_putI hX hV xf7_143 dX7_say_62 eS2 ?_
  exact g_vret hX hM (Option.some.inj h) dX7_say_65
set_option maxRecDepth 100000 in
theorem sb7_say_L16 {K : xK} {X : xX} {out : xR}  (hX : xOK K X RX7 cX7_say 4) (hM : xM K X out none) (hR : xRm X 0 0) (hV : (7, 0) ∈ xvl K)  {k16 : xSt → Int32 → Int32 → Int32 → Option xR} (hk16 : ∀ (S : xSt) (i1 : Int32) (i2 : Int32) (i3 : Int32), k16 S i1 i2 i3 = some out → xG K X S 16 [(0, xr K 7 0), (1, .int i1), (2, .int i2), (3, .int i3)] []) {S : xSt} {i1 : Int32} {i2 : Int32} {i3 : Int32} (h : b7_say_L16   k16 S i1 i2 i3 = some out) : xG K X S 16 [(0, xr K 7 0), (1, .int i1), (2, .int i2), (3, .int i3)] [] := by
  unfold b7_say_L16 at h
  refine g_iload_n hX dX7_say_16 rfl 3 rfl ?_
  refine g_aload_n hX dX7_say_17 rfl 0 rfl ?_
  refine g_getI hX hV xf7_143 dX7_say_18 ?_
  refine g_icmp_lt hX 50 dX7_say_21 (by decide) (fun hc => ?_) (fun hc => ?_)
  · have h := xif_t hc h
    exact g_sub [0, 1] (by rfl) (sf7_say_J50 hX hM hR hV h)
  · have h := xif_f hc h
    refine g_aload_n hX dX7_say_24 rfl 0 rfl ?_
    refine g_getR hX hV (xf7_63 _) dX7_say_25 ?_
    refine g_iload_n hX dX7_say_28 rfl 3 rfl ?_
    refine g_aload_n hX dX7_say_29 rfl 0 rfl ?_
    refine g_getR hX hV (xf7_29 _) dX7_say_30 ?_
    refine g_iload_n hX dX7_say_33 rfl 2 rfl ?_
    obtain ⟨hbj1, h⟩ := xat_inv h
    refine g_iald (n := 512) hX (xvc_7_8 hX.vc hV) rfl hbj1 dX7_say_34 ?_
    refine g_i2b hX dX7_say_35 ?_
    obtain ⟨hbj2, h⟩ := xat_inv h
    obtain ⟨S3, eS3, h⟩ := xlet_inv h
    refine g_bast (n := 48000) hX (xvc_7_23 hX.vc hV) (fun _ => rfl) hbj2 dX7_say_36 eS3 ?_
    refine g_aload_n hX dX7_say_37 rfl 0 rfl ?_
    refine g_getR hX hV (xf7_26 _) dX7_say_38 ?_
    refine g_iload_n hX dX7_say_41 rfl 2 rfl ?_
    obtain ⟨hbj4, h⟩ := xat_inv h
    refine g_iald (n := 512) hX (xvc_7_7 hX.vc hV) rfl hbj4 dX7_say_42 ?_
    refine g_istore_n (lv2 := [(2, .int (S3 38 0 (i2).toNatClampNeg)), (0, xr K 7 0), (1, .int i1), (3, .int i3)]) hX dX7_say_43 rfl (by decide) rfl ?_
    refine g_iinc (v := (i3 + (-1 : Int32))) (lv2 := [(3, .int (i3 + (-1 : Int32))), (2, .int (S3 38 0 (i2).toNatClampNeg)), (0, xr K 7 0), (1, .int i1)]) hX dX7_say_44 3 rfl rfl (by decide) rfl ?_
    refine g_goto hX 16 dX7_say_47 (by decide) ?_
    exact g_sub [2, 3, 1, 0] (by rfl) (hk16 _ _ _ _ h)
theorem sf7_say_L16 {K : xK} {X : xX} {out : xR}  (hX : xOK K X RX7 cX7_say 4) (hM : xM K X out none) (hR : xRm X 0 0) (hV : (7, 0) ∈ xvl K)  : ∀ (n : Nat) (S : xSt) (i1 : Int32) (i2 : Int32) (i3 : Int32) (h : f7_say_L16   n S i1 i2 i3 = some out), xG K X S 16 [(0, xr K 7 0), (1, .int i1), (2, .int i2), (3, .int i3)] [] := by
  intro n
  induction n with
  | zero => intro S i1 i2 i3 h; cases h
  | succ n ih => intro S i1 i2 i3 h; exact sb7_say_L16 hX hM hR hV  ih h
set_option maxRecDepth 100000 in
theorem c7_say {l : Launch} {K : xK}  (hvc : xVC (xvl K)) (hV : (7, 0) ∈ xvl K) {S : xSt} {a1 : Int32} {out : xR} (h : f7_say S  a1 = some out) : xMet l K yX7_say cX7_say 4 none 0 0 S [xr K 7 0, .int a1] out := by
  refine xMet_of RX7 (by decide +kernel) rfl hvc (Nat.le_of_ble_eq_true rfl) ?_
  intro X hX hM hR
  show xG K X S 0 [(0, xr K 7 0), (1, .int a1)] []
  unfold f7_say at h
  refine g_iload_n hX dX7_say_0 rfl 1 rfl ?_
  refine g_istore_n (lv2 := [(2, .int a1), (0, xr K 7 0), (1, .int a1)]) hX dX7_say_1 rfl (by decide) rfl ?_
  refine g_aload_n hX dX7_say_2 rfl 1 rfl ?_
  refine g_getI hX hV xf7_143 dX7_say_3 ?_
  refine g_aload_n hX dX7_say_6 rfl 1 rfl ?_
  refine g_getR hX hV (xf7_35 _) dX7_say_7 ?_
  refine g_iload_n hX dX7_say_10 rfl 2 rfl ?_
  obtain ⟨hbj1, h⟩ := xat_inv h
  refine g_iald (n := 512) hX (xvc_7_10 hX.vc hV) rfl hbj1 dX7_say_11 ?_
  refine g_iadd hX dX7_say_12 ?_
  refine g_iconst (v := (1 : Int32)) hX dX7_say_13 (by decide) ?_
  refine g_isub hX dX7_say_14 ?_
  refine g_istore_n (lv2 := [(3, .int (((S 7 0 24) + (S 41 0 (a1).toNatClampNeg)) - (1 : Int32))), (2, .int a1), (0, xr K 7 0), (1, .int a1)]) hX dX7_say_15 rfl (by decide) rfl ?_
  exact g_sub [2, 3, 1, 0] (by rfl) (sf7_say_L16 hX hM hR hV _ _ _ _ _ h)
set_option maxRecDepth 100000 in
theorem sf7_readCodes_J319 {K : xK} {X : xX} {out : xR}  (hX : xOK K X RX7 cX7_readCodes 9) (hM : xM K X out none) (hR : xRm X 1 23) (hV : (7, 0) ∈ xvl K)  {S : xSt} {i4 : Int32} (h : f7_readCodes_J319   S i4 = some out) : xG K X S 319 [(0, xr K 7 0), (4, .int i4)] [] := by
  unfold f7_readCodes_J319 at h
  refine g_aload_n hX dX7_readCodes_319 rfl 0 rfl ?_
  refine g_getI hX hV xf7_149 dX7_readCodes_320 ?_
  refine g_if_ne hX 344 dX7_readCodes_323 (by decide) (fun hc => ?_) (fun hc => ?_)
  · have h := xif_f hc h
    exact g_vret hX hM (Option.some.inj h) dX7_readCodes_344
  · have h := xif_t hc h
    refine g_iload hX dX7_readCodes_326 1 rfl ?_
    refine g_if_ne hX 344 dX7_readCodes_328 (by decide) (fun hc => ?_) (fun hc => ?_)
    · have h := xif_f hc h
      exact g_vret hX hM (Option.some.inj h) dX7_readCodes_344
    · have h := xif_t hc h
      refine g_aload_n hX dX7_readCodes_331 rfl 0 rfl ?_
      refine g_aload_n hX dX7_readCodes_332 rfl 0 rfl ?_
      refine g_getI hX hV xf7_88 dX7_readCodes_333 ?_
      obtain ⟨S1, eS1, h⟩ := xlet_inv h
      refine g_putI hX hV xf7_146 dX7_readCodes_336 eS1 ?_
      refine g_aload_n hX dX7_readCodes_339 rfl 0 rfl ?_
      refine g_iconst (v := (2 : Int32)) hX dX7_readCodes_340 (by decide) ?_
      obtain ⟨S2, eS2, h⟩ := xlet_inv h
      refine g_putI hX hV xf7_149 dX7_readCodes_341 eS2 ?_
      exact g_vret hX hM (Option.some.inj h) dX7_readCodes_344
set_option maxRecDepth 100000 in
theorem sf7_readCodes_J313 {K : xK} {X : xX} {out : xR}  (hX : xOK K X RX7 cX7_readCodes 9) (hM : xM K X out none) (hR : xRm X 1 23) (hV : (7, 0) ∈ xvl K) {k43 : xSt → Int32 → Int32 → Int32 → Int32 → Int32 → Option xR} (hk43 : ∀ (S : xSt) (i1 : Int32) (i2 : Int32) (i3 : Int32) (i4 : Int32) (i5 : Int32), k43 S i1 i2 i3 i4 i5 = some out → xG K X S 43 [(0, xr K 7 0), (1, .int i1), (2, .int i2), (3, .int i3), (4, .int i4), (5, .int i5)] []) {S : xSt} {i1 : Int32} {i2 : Int32} {i3 : Int32} {i4 : Int32} {i5 : Int32} (h : f7_readCodes_J313  k43 S i1 i2 i3 i4 i5 = some out) : xG K X S 313 [(0, xr K 7 0), (1, .int i1), (2, .int i2), (3, .int i3), (4, .int i4), (5, .int i5)] [] := by
  unfold f7_readCodes_J313 at h
  refine g_iinc (v := (i5 + (1 : Int32))) (lv2 := [(5, .int (i5 + (1 : Int32))), (0, xr K 7 0), (1, .int i1), (2, .int i2), (3, .int i3), (4, .int i4)]) hX dX7_readCodes_313 5 rfl rfl (by decide) rfl ?_
  refine g_goto hX 43 dX7_readCodes_316 (by decide) ?_
  exact g_sub [1, 2, 3, 4, 5, 0] (by rfl) (hk43 _ _ _ _ _ _ h)
set_option maxRecDepth 100000 in
theorem sf7_readCodes_J286 {K : xK} {X : xX} {out : xR}  (hX : xOK K X RX7 cX7_readCodes 9) (hM : xM K X out none) (hR : xRm X 1 23) (hV : (7, 0) ∈ xvl K) {k43 : xSt → Int32 → Int32 → Int32 → Int32 → Int32 → Option xR} (hk43 : ∀ (S : xSt) (i1 : Int32) (i2 : Int32) (i3 : Int32) (i4 : Int32) (i5 : Int32), k43 S i1 i2 i3 i4 i5 = some out → xG K X S 43 [(0, xr K 7 0), (1, .int i1), (2, .int i2), (3, .int i3), (4, .int i4), (5, .int i5)] []) {S : xSt} {i1 : Int32} {i2 : Int32} {i4 : Int32} {i5 : Int32} {i6 : Int32} {k0 : Int32} {k1 : Int32} (h : f7_readCodes_J286  k43 S i1 i2 i4 i5 i6 k0 k1 = some out) : xG K X S 286 [(0, xr K 7 0), (1, .int i1), (2, .int i2), (4, .int i4), (5, .int i5), (6, .int i6)] [.int k0, .int k1, xr K 7 0] := by
  unfold f7_readCodes_J286 at h
  refine g_iadd hX dX7_readCodes_286 ?_
  obtain ⟨S1, eS1, h⟩ := xlet_inv h
  refine g_putI hX hV xf7_152 dX7_readCodes_287 eS1 ?_
  refine g_aload_n hX dX7_readCodes_290 rfl 0 rfl ?_
  refine g_iload hX dX7_readCodes_291 5 rfl ?_
  obtain ⟨S2, hcS2, h⟩ := xbV_inv h
  refine g_callV hX hR hV (fun l => c7_say (l := l) hX.vc hV hcS2) xc7_155 rfl ⟨by decide, by decide⟩ rfl rfl (Nat.le_of_ble_eq_true rfl) dX7_readCodes_293 ?_
  refine g_iload hX dX7_readCodes_296 5 rfl ?_
  refine g_istore_n (lv2 := [(3, .int i6), (0, xr K 7 0), (1, .int i1), (2, .int i2), (4, .int i4), (5, .int i5), (6, .int i6)]) hX dX7_readCodes_298 rfl (by decide) rfl ?_
  refine g_goto hX 313 dX7_readCodes_299 (by decide) ?_
  exact g_sub [1, 2, 3, 0, 4, 5] (by rfl) (sf7_readCodes_J313 hX hM hR hV hk43 h)
set_option maxRecDepth 100000 in
theorem sf7_readCodes_J271 {K : xK} {X : xX} {out : xR}  (hX : xOK K X RX7 cX7_readCodes 9) (hM : xM K X out none) (hR : xRm X 1 23) (hV : (7, 0) ∈ xvl K) {k43 : xSt → Int32 → Int32 → Int32 → Int32 → Int32 → Option xR} (hk43 : ∀ (S : xSt) (i1 : Int32) (i2 : Int32) (i3 : Int32) (i4 : Int32) (i5 : Int32), k43 S i1 i2 i3 i4 i5 = some out → xG K X S 43 [(0, xr K 7 0), (1, .int i1), (2, .int i2), (3, .int i3), (4, .int i4), (5, .int i5)] []) {S : xSt} {i1 : Int32} {i2 : Int32} {i4 : Int32} {i5 : Int32} {i6 : Int32} {i8 : Int32} (h : f7_readCodes_J271  k43 S i1 i2 i4 i5 i6 i8 = some out) : xG K X S 271 [(0, xr K 7 0), (1, .int i1), (2, .int i2), (4, .int i4), (5, .int i5), (6, .int i6), (8, .int i8)] [] := by
  unfold f7_readCodes_J271 at h
  refine g_aload_n hX dX7_readCodes_271 rfl 0 rfl ?_
  refine g_dup hX dX7_readCodes_272 rfl ?_
  refine g_getI hX hV xf7_152 dX7_readCodes_273 ?_
  refine g_iload hX dX7_readCodes_276 6 rfl ?_
  refine g_if_eq hX 285 dX7_readCodes_278 (by decide) (fun hc => ?_) (fun hc => ?_)
  · have h := xif_t hc h
    refine g_iconst (v := (0 : Int32)) hX dX7_readCodes_285 (by decide) ?_
    exact g_sub [0, 1, 2, 3, 4, 5] (by rfl) (sf7_readCodes_J286 hX hM hR hV hk43 h)
  · have h := xif_f hc h
    refine g_iconst (v := (1 : Int32)) hX dX7_readCodes_281 (by decide) ?_
    refine g_goto hX 286 dX7_readCodes_282 (by decide) ?_
    exact g_sub [0, 1, 2, 3, 4, 5] (by rfl) (sf7_readCodes_J286 hX hM hR hV hk43 h)
set_option maxRecDepth 100000 in
theorem sf7_readCodes_J268 {K : xK} {X : xX} {out : xR}  (hX : xOK K X RX7 cX7_readCodes 9) (hM : xM K X out none) (hR : xRm X 1 23) (hV : (7, 0) ∈ xvl K) {k43 : xSt → Int32 → Int32 → Int32 → Int32 → Int32 → Option xR} (hk43 : ∀ (S : xSt) (i1 : Int32) (i2 : Int32) (i3 : Int32) (i4 : Int32) (i5 : Int32), k43 S i1 i2 i3 i4 i5 = some out → xG K X S 43 [(0, xr K 7 0), (1, .int i1), (2, .int i2), (3, .int i3), (4, .int i4), (5, .int i5)] []) {S : xSt} {i1 : Int32} {i2 : Int32} {i4 : Int32} {i5 : Int32} {i6 : Int32} {i8 : Int32} {k0 : Int32} {k1 : Int32} (h : f7_readCodes_J268  k43 S i1 i2 i4 i5 i6 i8 k0 k1 = some out) : xG K X S 268 [(0, xr K 7 0), (1, .int i1), (2, .int i2), (4, .int i4), (5, .int i5), (6, .int i6), (8, .int i8)] [.int k0, .int k1, xr K 7 0] := by
  unfold f7_readCodes_J268 at h
  obtain ⟨S1, hcS1, h⟩ := xbV_inv h
  refine g_callV hX hR hV (fun l => c7_enterPhrase (l := l) hX.vc hV hcS1) xc7_105 rfl ⟨by decide, by decide⟩ rfl rfl (Nat.le_of_ble_eq_true rfl) dX7_readCodes_268 ?_
  exact sf7_readCodes_J271 hX hM hR hV hk43 h
set_option maxRecDepth 100000 in
theorem sf7_readCodes_J233 {K : xK} {X : xX} {out : xR}  (hX : xOK K X RX7 cX7_readCodes 9) (hM : xM K X out none) (hR : xRm X 1 23) (hV : (7, 0) ∈ xvl K) {k43 : xSt → Int32 → Int32 → Int32 → Int32 → Int32 → Option xR} (hk43 : ∀ (S : xSt) (i1 : Int32) (i2 : Int32) (i3 : Int32) (i4 : Int32) (i5 : Int32), k43 S i1 i2 i3 i4 i5 = some out → xG K X S 43 [(0, xr K 7 0), (1, .int i1), (2, .int i2), (3, .int i3), (4, .int i4), (5, .int i5)] []) {S : xSt} {i1 : Int32} {i2 : Int32} {i3 : Int32} {i4 : Int32} {i5 : Int32} {i6 : Int32} {i8 : Int32} (h : f7_readCodes_J233  k43 S i1 i2 i3 i4 i5 i6 i8 = some out) : xG K X S 233 [(0, xr K 7 0), (1, .int i1), (2, .int i2), (3, .int i3), (4, .int i4), (5, .int i5), (6, .int i6), (8, .int i8)] [] := by
  unfold f7_readCodes_J233 at h
  refine g_iload_n hX dX7_readCodes_233 rfl 3 rfl ?_
  refine g_if_lt hX 271 dX7_readCodes_234 (by decide) (fun hc => ?_) (fun hc => ?_)
  · have h := xif_t hc h
    exact g_sub [0, 1, 2, 4, 5, 6, 7] (by rfl) (sf7_readCodes_J271 hX hM hR hV hk43 h)
  · have h := xif_f hc h
    refine g_aload_n hX dX7_readCodes_237 rfl 0 rfl ?_
    refine g_getI hX hV xf7_85 dX7_readCodes_238 ?_
    refine g_iload_n hX dX7_readCodes_241 rfl 2 rfl ?_
    refine g_icmp_ge hX 271 dX7_readCodes_242 (by decide) (fun hc => ?_) (fun hc => ?_)
    · have h := xif_t hc h
      exact g_sub [0, 1, 2, 4, 5, 6, 7] (by rfl) (sf7_readCodes_J271 hX hM hR hV hk43 h)
    · have h := xif_f hc h
      refine g_aload_n hX dX7_readCodes_245 rfl 0 rfl ?_
      refine g_iload_n hX dX7_readCodes_246 rfl 3 rfl ?_
      refine g_iload hX dX7_readCodes_247 7 rfl ?_
      refine g_if_eq hX 261 dX7_readCodes_249 (by decide) (fun hc => ?_) (fun hc => ?_)
      · have h := xif_t hc h
        refine g_aload_n hX dX7_readCodes_261 rfl 0 rfl ?_
        refine g_getR hX hV (xf7_32 _) dX7_readCodes_262 ?_
        refine g_iload hX dX7_readCodes_265 6 rfl ?_
        obtain ⟨hbj1, h⟩ := xat_inv h
        refine g_iald (n := 512) hX (xvc_7_9 hX.vc hV) rfl hbj1 dX7_readCodes_267 ?_
        exact g_sub [0, 1, 2, 4, 5, 6, 7] (by rfl) (sf7_readCodes_J268 hX hM hR hV hk43 h)
      · have h := xif_f hc h
        refine g_aload_n hX dX7_readCodes_252 rfl 0 rfl ?_
        refine g_getR hX hV (xf7_32 _) dX7_readCodes_253 ?_
        refine g_iload_n hX dX7_readCodes_256 rfl 3 rfl ?_
        obtain ⟨hbj2, h⟩ := xat_inv h
        refine g_iald (n := 512) hX (xvc_7_9 hX.vc hV) rfl hbj2 dX7_readCodes_257 ?_
        refine g_goto hX 268 dX7_readCodes_258 (by decide) ?_
        exact g_sub [0, 1, 2, 4, 5, 6, 7] (by rfl) (sf7_readCodes_J268 hX hM hR hV hk43 h)
set_option maxRecDepth 100000 in
theorem sf7_readCodes_J172 {K : xK} {X : xX} {out : xR}  (hX : xOK K X RX7 cX7_readCodes 9) (hM : xM K X out none) (hR : xRm X 1 23) (hV : (7, 0) ∈ xvl K) {k43 : xSt → Int32 → Int32 → Int32 → Int32 → Int32 → Option xR} (hk43 : ∀ (S : xSt) (i1 : Int32) (i2 : Int32) (i3 : Int32) (i4 : Int32) (i5 : Int32), k43 S i1 i2 i3 i4 i5 = some out → xG K X S 43 [(0, xr K 7 0), (1, .int i1), (2, .int i2), (3, .int i3), (4, .int i4), (5, .int i5)] []) {S : xSt} {i1 : Int32} {i2 : Int32} {i3 : Int32} {i4 : Int32} {i5 : Int32} {i6 : Int32} {i7 : Int32} {k0 : Int32} (h : f7_readCodes_J172  k43 S i1 i2 i3 i4 i5 i6 i7 k0 = some out) : xG K X S 172 [(0, xr K 7 0), (1, .int i1), (2, .int i2), (3, .int i3), (4, .int i4), (5, .int i5), (6, .int i6), (7, .int i7)] [.int k0] := by
  unfold f7_readCodes_J172 at h
  refine g_istore (lv2 := [(8, .int k0), (0, xr K 7 0), (1, .int i1), (2, .int i2), (3, .int i3), (4, .int i4), (5, .int i5), (6, .int i6), (7, .int i7)]) hX dX7_readCodes_172 (by decide) rfl ?_
  refine g_iload hX dX7_readCodes_174 5 rfl ?_
  refine g_if_eq hX 193 dX7_readCodes_176 (by decide) (fun hc => ?_) (fun hc => ?_)
  · have h := xif_t hc h
    refine g_iload hX dX7_readCodes_193 7 rfl ?_
    refine g_bipush (v := (9 : Int32)) hX dX7_readCodes_195 (by decide) ?_
    refine g_icmp_ne hX 206 dX7_readCodes_197 (by decide) (fun hc => ?_) (fun hc => ?_)
    · have h := xif_f hc h
      refine g_iload hX dX7_readCodes_206 7 rfl ?_
      refine g_bipush (v := (8 : Int32)) hX dX7_readCodes_208 (by decide) ?_
      refine g_icmp_ne hX 223 dX7_readCodes_210 (by decide) (fun hc => ?_) (fun hc => ?_)
      · have h := xif_f hc h
        refine g_iload hX dX7_readCodes_223 8 rfl ?_
        refine g_if_ne hX 233 dX7_readCodes_225 (by decide) (fun hc => ?_) (fun hc => ?_)
        · have h := xif_f hc h
          exact g_sub [1, 2, 3, 4, 5, 6, 7, 0] (by rfl) (sf7_readCodes_J233 hX hM hR hV hk43 h)
        · have h := xif_t hc h
          refine g_iload hX dX7_readCodes_228 0 rfl ?_
          refine g_if_eq hX 302 dX7_readCodes_230 (by decide) (fun hc => ?_) (fun hc => ?_)
          · have h := xif_t hc h
            refine g_aload_n hX dX7_readCodes_302 rfl 1 rfl ?_
            refine g_iload hX dX7_readCodes_303 6 rfl ?_
            obtain ⟨S1, eS1, h⟩ := xlet_inv h
            refine g_putI hX hV xf7_146 dX7_readCodes_305 eS1 ?_
            refine g_aload_n hX dX7_readCodes_308 rfl 1 rfl ?_
            refine g_iconst (v := (1 : Int32)) hX dX7_readCodes_309 (by decide) ?_
            obtain ⟨S2, eS2, h⟩ := xlet_inv h
            refine g_putI hX hV xf7_149 dX7_readCodes_310 eS2 ?_
            exact g_sub [1, 2, 3, 4, 5, 6] (by rfl) (sf7_readCodes_J313 hX hM hR hV hk43 h)
          · have h := xif_f hc h
            exact g_sub [1, 2, 3, 4, 5, 6, 7, 0] (by rfl) (sf7_readCodes_J233 hX hM hR hV hk43 h)
      · have h := xif_t hc h
        refine g_aload_n hX dX7_readCodes_213 rfl 1 rfl ?_
        obtain ⟨S3, hcS3, h⟩ := xbV_inv h
        refine g_callV hX hR hV (fun l => c7_beginBook (l := l) hX.vc hV hcS3) xc7_94 rfl ⟨by decide, by decide⟩ rfl rfl (Nat.le_of_ble_eq_true rfl) dX7_readCodes_214 ?_
        refine g_bipush (v := (-6 : Int32)) hX dX7_readCodes_217 (by decide) ?_
        refine g_istore_n (lv2 := [(3, .int (-6 : Int32)), (8, .int k0), (0, xr K 7 0), (1, .int i1), (2, .int i2), (4, .int i4), (5, .int i5), (6, .int i6), (7, .int i7)]) hX dX7_readCodes_219 rfl (by decide) rfl ?_
        refine g_goto hX 313 dX7_readCodes_220 (by decide) ?_
        exact g_sub [2, 3, 4, 0, 5, 6] (by rfl) (sf7_readCodes_J313 hX hM hR hV hk43 h)
    · have h := xif_t hc h
      refine g_iconst (v := (1 : Int32)) hX dX7_readCodes_200 (by decide) ?_
      refine g_istore (lv2 := [(4, .int (1 : Int32)), (8, .int k0), (0, xr K 7 0), (1, .int i1), (2, .int i2), (3, .int i3), (5, .int i5), (6, .int i6), (7, .int i7)]) hX dX7_readCodes_201 (by decide) rfl ?_
      refine g_goto hX 313 dX7_readCodes_203 (by decide) ?_
      exact g_sub [2, 3, 4, 5, 0, 6] (by rfl) (sf7_readCodes_J313 hX hM hR hV hk43 h)
  · have h := xif_f hc h
    refine g_aload_n hX dX7_readCodes_179 rfl 1 rfl ?_
    refine g_iload hX dX7_readCodes_180 6 rfl ?_
    obtain ⟨S4, eS4, h⟩ := xlet_inv h
    refine g_putI hX hV xf7_146 dX7_readCodes_182 eS4 ?_
    refine g_aload_n hX dX7_readCodes_185 rfl 1 rfl ?_
    refine g_iconst (v := (3 : Int32)) hX dX7_readCodes_186 (by decide) ?_
    obtain ⟨S5, eS5, h⟩ := xlet_inv h
    refine g_putI hX hV xf7_149 dX7_readCodes_187 eS5 ?_
    refine g_goto hX 313 dX7_readCodes_190 (by decide) ?_
    exact g_sub [1, 2, 3, 4, 5, 6] (by rfl) (sf7_readCodes_J313 hX hM hR hV hk43 h)
set_option maxRecDepth 100000 in
theorem sf7_readCodes_J171 {K : xK} {X : xX} {out : xR}  (hX : xOK K X RX7 cX7_readCodes 9) (hM : xM K X out none) (hR : xRm X 1 23) (hV : (7, 0) ∈ xvl K) {k43 : xSt → Int32 → Int32 → Int32 → Int32 → Int32 → Option xR} (hk43 : ∀ (S : xSt) (i1 : Int32) (i2 : Int32) (i3 : Int32) (i4 : Int32) (i5 : Int32), k43 S i1 i2 i3 i4 i5 = some out → xG K X S 43 [(0, xr K 7 0), (1, .int i1), (2, .int i2), (3, .int i3), (4, .int i4), (5, .int i5)] []) {S : xSt} {i1 : Int32} {i2 : Int32} {i3 : Int32} {i4 : Int32} {i5 : Int32} {i6 : Int32} {i7 : Int32} (h : f7_readCodes_J171  k43 S i1 i2 i3 i4 i5 i6 i7 = some out) : xG K X S 171 [(0, xr K 7 0), (1, .int i1), (2, .int i2), (3, .int i3), (4, .int i4), (5, .int i5), (6, .int i6), (7, .int i7)] [] := by
  unfold f7_readCodes_J171 at h
  refine g_iconst (v := (0 : Int32)) hX dX7_readCodes_171 (by decide) ?_
  exact sf7_readCodes_J172 hX hM hR hV hk43 h
set_option maxRecDepth 100000 in
theorem sf7_readCodes_J144 {K : xK} {X : xX} {out : xR}  (hX : xOK K X RX7 cX7_readCodes 9) (hM : xM K X out none) (hR : xRm X 1 23) (hV : (7, 0) ∈ xvl K) {k43 : xSt → Int32 → Int32 → Int32 → Int32 → Int32 → Option xR} (hk43 : ∀ (S : xSt) (i1 : Int32) (i2 : Int32) (i3 : Int32) (i4 : Int32) (i5 : Int32), k43 S i1 i2 i3 i4 i5 = some out → xG K X S 43 [(0, xr K 7 0), (1, .int i1), (2, .int i2), (3, .int i3), (4, .int i4), (5, .int i5)] []) {S : xSt} {i1 : Int32} {i2 : Int32} {i3 : Int32} {i4 : Int32} {i5 : Int32} {i6 : Int32} {k0 : Int32} (h : f7_readCodes_J144  k43 S i1 i2 i3 i4 i5 i6 k0 = some out) : xG K X S 144 [(0, xr K 7 0), (1, .int i1), (2, .int i2), (3, .int i3), (4, .int i4), (5, .int i5), (6, .int i6)] [.int k0] := by
  unfold f7_readCodes_J144 at h
  refine g_istore (lv2 := [(7, .int k0), (0, xr K 7 0), (1, .int i1), (2, .int i2), (3, .int i3), (4, .int i4), (5, .int i5), (6, .int i6)]) hX dX7_readCodes_144 (by decide) rfl ?_
  refine g_iload hX dX7_readCodes_146 7 rfl ?_
  refine g_aload_n hX dX7_readCodes_148 rfl 1 rfl ?_
  refine g_getI hX hV xf7_85 dX7_readCodes_149 ?_
  refine g_icmp_ne hX 171 dX7_readCodes_152 (by decide) (fun hc => ?_) (fun hc => ?_)
  · have h := xif_f hc h
    exact g_sub [1, 2, 3, 4, 5, 6, 7, 0] (by rfl) (sf7_readCodes_J171 hX hM hR hV hk43 h)
  · have h := xif_t hc h
    refine g_iload_n hX dX7_readCodes_155 rfl 4 rfl ?_
    refine g_if_lt hX 171 dX7_readCodes_156 (by decide) (fun hc => ?_) (fun hc => ?_)
    · have h := xif_t hc h
      exact g_sub [1, 2, 3, 4, 5, 6, 7, 0] (by rfl) (sf7_readCodes_J171 hX hM hR hV hk43 h)
    · have h := xif_f hc h
      refine g_aload_n hX dX7_readCodes_159 rfl 1 rfl ?_
      refine g_getI hX hV xf7_85 dX7_readCodes_160 ?_
      refine g_iload_n hX dX7_readCodes_163 rfl 3 rfl ?_
      refine g_icmp_ge hX 171 dX7_readCodes_164 (by decide) (fun hc => ?_) (fun hc => ?_)
      · have h := xif_t hc h
        exact g_sub [1, 2, 3, 4, 5, 6, 7, 0] (by rfl) (sf7_readCodes_J171 hX hM hR hV hk43 h)
      · have h := xif_f hc h
        refine g_iconst (v := (1 : Int32)) hX dX7_readCodes_167 (by decide) ?_
        refine g_goto hX 172 dX7_readCodes_168 (by decide) ?_
        exact g_sub [1, 2, 3, 4, 5, 6, 7, 0] (by rfl) (sf7_readCodes_J172 hX hM hR hV hk43 h)
set_option maxRecDepth 100000 in
theorem sf7_readCodes_J139 {K : xK} {X : xX} {out : xR}  (hX : xOK K X RX7 cX7_readCodes 9) (hM : xM K X out none) (hR : xRm X 1 23) (hV : (7, 0) ∈ xvl K) {k43 : xSt → Int32 → Int32 → Int32 → Int32 → Int32 → Option xR} (hk43 : ∀ (S : xSt) (i1 : Int32) (i2 : Int32) (i3 : Int32) (i4 : Int32) (i5 : Int32), k43 S i1 i2 i3 i4 i5 = some out → xG K X S 43 [(0, xr K 7 0), (1, .int i1), (2, .int i2), (3, .int i3), (4, .int i4), (5, .int i5)] []) {S : xSt} {i1 : Int32} {i2 : Int32} {i3 : Int32} {i4 : Int32} {i5 : Int32} {i6 : Int32} (h : f7_readCodes_J139  k43 S i1 i2 i3 i4 i5 i6 = some out) : xG K X S 139 [(0, xr K 7 0), (1, .int i1), (2, .int i2), (3, .int i3), (4, .int i4), (5, .int i5), (6, .int i6)] [] := by
  unfold f7_readCodes_J139 at h
  refine g_iconst (v := (1 : Int32)) hX dX7_readCodes_139 (by decide) ?_
  refine g_goto hX 144 dX7_readCodes_140 (by decide) ?_
  exact sf7_readCodes_J144 hX hM hR hV hk43 h
set_option maxRecDepth 100000 in
theorem sf7_readCodes_J110 {K : xK} {X : xX} {out : xR}  (hX : xOK K X RX7 cX7_readCodes 9) (hM : xM K X out none) (hR : xRm X 1 23) (hV : (7, 0) ∈ xvl K) {k43 : xSt → Int32 → Int32 → Int32 → Int32 → Int32 → Option xR} (hk43 : ∀ (S : xSt) (i1 : Int32) (i2 : Int32) (i3 : Int32) (i4 : Int32) (i5 : Int32), k43 S i1 i2 i3 i4 i5 = some out → xG K X S 43 [(0, xr K 7 0), (1, .int i1), (2, .int i2), (3, .int i3), (4, .int i4), (5, .int i5)] []) {S : xSt} {i1 : Int32} {i2 : Int32} {i3 : Int32} {i4 : Int32} {i5 : Int32} {k0 : Int32} (h : f7_readCodes_J110  k43 S i1 i2 i3 i4 i5 k0 = some out) : xG K X S 110 [(0, xr K 7 0), (1, .int i1), (2, .int i2), (3, .int i3), (4, .int i4), (5, .int i5)] [.int k0] := by
  unfold f7_readCodes_J110 at h
  refine g_istore (lv2 := [(6, .int k0), (0, xr K 7 0), (1, .int i1), (2, .int i2), (3, .int i3), (4, .int i4), (5, .int i5)]) hX dX7_readCodes_110 (by decide) rfl ?_
  refine g_iload hX dX7_readCodes_112 0 rfl ?_
  refine g_iconst (v := (0 : Int32)) hX dX7_readCodes_114 (by decide) ?_
  refine g_bipush (v := (7 : Int32)) hX dX7_readCodes_115 (by decide) ?_
  obtain ⟨S1, r2, hcS1, h⟩ := xbI_inv h
  refine g_callS hX hR (fun l => c7_in (l := l) hX.vc hcS1) xc7_71 rfl ⟨by decide, by decide⟩ rfl rfl (Nat.le_of_ble_eq_true rfl) dX7_readCodes_117 ?_
  refine g_if_ne hX 139 dX7_readCodes_120 (by decide) (fun hc => ?_) (fun hc => ?_)
  · have h := xif_f hc h
    exact g_sub [1, 2, 3, 4, 5, 6, 0] (by rfl) (sf7_readCodes_J139 hX hM hR hV hk43 h)
  · have h := xif_t hc h
    refine g_iload hX dX7_readCodes_123 0 rfl ?_
    refine g_bipush (v := (10 : Int32)) hX dX7_readCodes_125 (by decide) ?_
    refine g_aload_n hX dX7_readCodes_127 rfl 1 rfl ?_
    refine g_getI hX hV xf7_85 dX7_readCodes_128 ?_
    refine g_iconst (v := (1 : Int32)) hX dX7_readCodes_131 (by decide) ?_
    refine g_isub hX dX7_readCodes_132 ?_
    obtain ⟨S3, r4, hcS3, h⟩ := xbI_inv h
    refine g_callS hX hR (fun l => c7_in (l := l) hX.vc hcS3) xc7_71 rfl ⟨by decide, by decide⟩ rfl rfl (Nat.le_of_ble_eq_true rfl) dX7_readCodes_133 ?_
    refine g_if_eq hX 143 dX7_readCodes_136 (by decide) (fun hc => ?_) (fun hc => ?_)
    · have h := xif_t hc h
      refine g_iconst (v := (0 : Int32)) hX dX7_readCodes_143 (by decide) ?_
      exact g_sub [1, 2, 3, 4, 5, 6, 0] (by rfl) (sf7_readCodes_J144 hX hM hR hV hk43 h)
    · have h := xif_f hc h
      exact g_sub [1, 2, 3, 4, 5, 6, 0] (by rfl) (sf7_readCodes_J139 hX hM hR hV hk43 h)
set_option maxRecDepth 100000 in
theorem sb7_readCodes_L43 {K : xK} {X : xX} {out : xR}  (hX : xOK K X RX7 cX7_readCodes 9) (hM : xM K X out none) (hR : xRm X 1 23) (hV : (7, 0) ∈ xvl K)  {k43 : xSt → Int32 → Int32 → Int32 → Int32 → Int32 → Option xR} (hk43 : ∀ (S : xSt) (i1 : Int32) (i2 : Int32) (i3 : Int32) (i4 : Int32) (i5 : Int32), k43 S i1 i2 i3 i4 i5 = some out → xG K X S 43 [(0, xr K 7 0), (1, .int i1), (2, .int i2), (3, .int i3), (4, .int i4), (5, .int i5)] []) {S : xSt} {i1 : Int32} {i2 : Int32} {i3 : Int32} {i4 : Int32} {i5 : Int32} (h : b7_readCodes_L43   k43 S i1 i2 i3 i4 i5 = some out) : xG K X S 43 [(0, xr K 7 0), (1, .int i1), (2, .int i2), (3, .int i3), (4, .int i4), (5, .int i5)] [] := by
  unfold b7_readCodes_L43 at h
  refine g_iload hX dX7_readCodes_43 5 rfl ?_
  refine g_aload_n hX dX7_readCodes_45 rfl 0 rfl ?_
  refine g_getI hX hV xf7_88 dX7_readCodes_46 ?_
  refine g_icmp_ge hX 319 dX7_readCodes_49 (by decide) (fun hc => ?_) (fun hc => ?_)
  · have h := xif_t hc h
    exact g_sub [0, 4] (by rfl) (sf7_readCodes_J319 hX hM hR hV h)
  · have h := xif_f hc h
    refine g_aload_n hX dX7_readCodes_52 rfl 0 rfl ?_
    refine g_getI hX hV xf7_149 dX7_readCodes_53 ?_
    refine g_if_ne hX 319 dX7_readCodes_56 (by decide) (fun hc => ?_) (fun hc => ?_)
    · have h := xif_f hc h
      exact g_sub [0, 4] (by rfl) (sf7_readCodes_J319 hX hM hR hV h)
    · have h := xif_t hc h
      refine g_iload_n hX dX7_readCodes_59 rfl 1 rfl ?_
      refine g_if_ge hX 85 dX7_readCodes_60 (by decide) (fun hc => ?_) (fun hc => ?_)
      · have h := xif_t hc h
        refine g_iload hX dX7_readCodes_85 5 rfl ?_
        refine g_iload_n hX dX7_readCodes_87 rfl 1 rfl ?_
        refine g_icmp_ne hX 103 dX7_readCodes_88 (by decide) (fun hc => ?_) (fun hc => ?_)
        · have h := xif_f hc h
          refine g_aload_n hX dX7_readCodes_103 rfl 0 rfl ?_
          refine g_getR hX hV (xf7_38 _) dX7_readCodes_104 ?_
          refine g_iload hX dX7_readCodes_107 5 rfl ?_
          obtain ⟨hbj1, h⟩ := xat_inv h
          refine g_iald (n := 300) hX (xvc_7_12 hX.vc hV) rfl hbj1 dX7_readCodes_109 ?_
          exact sf7_readCodes_J110 hX hM hR hV hk43 h
        · have h := xif_t hc h
          refine g_aload_n hX dX7_readCodes_91 rfl 0 rfl ?_
          refine g_getR hX hV (xf7_38 _) dX7_readCodes_92 ?_
          refine g_iload hX dX7_readCodes_95 5 rfl ?_
          obtain ⟨hbj2, h⟩ := xat_inv h
          refine g_iald (n := 300) hX (xvc_7_12 hX.vc hV) rfl hbj2 dX7_readCodes_97 ?_
          refine g_iconst (v := (1 : Int32)) hX dX7_readCodes_98 (by decide) ?_
          refine g_ixor hX dX7_readCodes_99 ?_
          refine g_goto hX 110 dX7_readCodes_100 (by decide) ?_
          exact sf7_readCodes_J110 hX hM hR hV hk43 h
      · have h := xif_f hc h
        refine g_aload_n hX dX7_readCodes_63 rfl 0 rfl ?_
        refine g_getR hX hV (xf7_38 _) dX7_readCodes_64 ?_
        refine g_iload hX dX7_readCodes_67 5 rfl ?_
        obtain ⟨hbj3, h⟩ := xat_inv h
        refine g_iald (n := 300) hX (xvc_7_12 hX.vc hV) rfl hbj3 dX7_readCodes_69 ?_
        refine g_aload_n hX dX7_readCodes_70 rfl 0 rfl ?_
        refine g_getR hX hV (xf7_7 _) dX7_readCodes_71 ?_
        refine g_sipush (v := (250 : Int32)) hX dX7_readCodes_74 (by decide) ?_
        refine g_iload hX dX7_readCodes_77 5 rfl ?_
        refine g_iadd hX dX7_readCodes_79 ?_
        obtain ⟨hbj4, h⟩ := xat_inv h
        refine g_iald (n := 560) hX (xvc_7_0 hX.vc hV) rfl hbj4 dX7_readCodes_80 ?_
        refine g_ixor hX dX7_readCodes_81 ?_
        refine g_goto hX 110 dX7_readCodes_82 (by decide) ?_
        exact sf7_readCodes_J110 hX hM hR hV hk43 h
theorem sf7_readCodes_L43 {K : xK} {X : xX} {out : xR}  (hX : xOK K X RX7 cX7_readCodes 9) (hM : xM K X out none) (hR : xRm X 1 23) (hV : (7, 0) ∈ xvl K)  : ∀ (n : Nat) (S : xSt) (i1 : Int32) (i2 : Int32) (i3 : Int32) (i4 : Int32) (i5 : Int32) (h : f7_readCodes_L43   n S i1 i2 i3 i4 i5 = some out), xG K X S 43 [(0, xr K 7 0), (1, .int i1), (2, .int i2), (3, .int i3), (4, .int i4), (5, .int i5)] [] := by
  intro n
  induction n with
  | zero => intro S i1 i2 i3 i4 i5 h; cases h
  | succ n ih => intro S i1 i2 i3 i4 i5 h; exact sb7_readCodes_L43 hX hM hR hV  ih h
set_option maxRecDepth 100000 in
theorem c7_readCodes {l : Launch} {K : xK}  (hvc : xVC (xvl K)) (hV : (7, 0) ∈ xvl K) {S : xSt} {a1 : Int32} {out : xR} (h : f7_readCodes S  a1 = some out) : xMet l K yX7_readCodes cX7_readCodes 9 none 1 23 S [xr K 7 0, .int a1] out := by
  refine xMet_of RX7 (by decide +kernel) rfl hvc (Nat.le_of_ble_eq_true rfl) ?_
  intro X hX hM hR
  show xG K X S 0 [(0, xr K 7 0), (1, .int a1)] []
  unfold f7_readCodes at h
  refine g_iconst (v := (1 : Int32)) hX dX7_readCodes_0 (by decide) ?_
  refine g_aload_n hX dX7_readCodes_1 rfl 0 rfl ?_
  refine g_getR hX hV (xf7_7 _) dX7_readCodes_2 ?_
  refine g_iconst (v := (0 : Int32)) hX dX7_readCodes_5 (by decide) ?_
  obtain ⟨hbj1, h⟩ := xat_inv h
  refine g_iald (n := 560) hX (xvc_7_0 hX.vc hV) rfl hbj1 dX7_readCodes_6 ?_
  refine g_ishl hX dX7_readCodes_7 ?_
  refine g_istore_n (lv2 := [(2, .int ((1 : Int32) <<< ((S 33 0 ((0 : Int32)).toNatClampNeg) &&& 31))), (0, xr K 7 0), (1, .int a1)]) hX dX7_readCodes_8 rfl (by decide) rfl ?_
  refine g_bipush (v := (-6 : Int32)) hX dX7_readCodes_9 (by decide) ?_
  refine g_istore_n (lv2 := [(3, .int (-6 : Int32)), (2, .int ((1 : Int32) <<< ((S 33 0 ((0 : Int32)).toNatClampNeg) &&& 31))), (0, xr K 7 0), (1, .int a1)]) hX dX7_readCodes_11 rfl (by decide) rfl ?_
  refine g_iconst (v := (0 : Int32)) hX dX7_readCodes_12 (by decide) ?_
  refine g_istore (lv2 := [(4, .int (0 : Int32)), (3, .int (-6 : Int32)), (2, .int ((1 : Int32) <<< ((S 33 0 ((0 : Int32)).toNatClampNeg) &&& 31))), (0, xr K 7 0), (1, .int a1)]) hX dX7_readCodes_13 (by decide) rfl ?_
  refine g_aload_n hX dX7_readCodes_15 rfl 3 rfl ?_
  refine g_iconst (v := (0 : Int32)) hX dX7_readCodes_16 (by decide) ?_
  obtain ⟨S2, eS2, h⟩ := xlet_inv h
  refine g_putI hX hV xf7_143 dX7_readCodes_17 eS2 ?_
  refine g_aload_n hX dX7_readCodes_20 rfl 3 rfl ?_
  refine g_bipush (v := (-6 : Int32)) hX dX7_readCodes_21 (by decide) ?_
  obtain ⟨S3, eS3, h⟩ := xlet_inv h
  refine g_putI hX hV xf7_146 dX7_readCodes_23 eS3 ?_
  refine g_aload_n hX dX7_readCodes_26 rfl 3 rfl ?_
  refine g_iconst (v := (0 : Int32)) hX dX7_readCodes_27 (by decide) ?_
  obtain ⟨S4, eS4, h⟩ := xlet_inv h
  refine g_putI hX hV xf7_149 dX7_readCodes_28 eS4 ?_
  refine g_aload_n hX dX7_readCodes_31 rfl 3 rfl ?_
  refine g_iconst (v := (0 : Int32)) hX dX7_readCodes_32 (by decide) ?_
  obtain ⟨S5, eS5, h⟩ := xlet_inv h
  refine g_putI hX hV xf7_152 dX7_readCodes_33 eS5 ?_
  refine g_aload_n hX dX7_readCodes_36 rfl 3 rfl ?_
  obtain ⟨S6, hcS6, h⟩ := xbV_inv h
  refine g_callV hX hR hV (fun l => c7_beginBook (l := l) hX.vc hV hcS6) xc7_94 rfl ⟨by decide, by decide⟩ rfl rfl (Nat.le_of_ble_eq_true rfl) dX7_readCodes_37 ?_
  refine g_iconst (v := (0 : Int32)) hX dX7_readCodes_40 (by decide) ?_
  refine g_istore (lv2 := [(5, .int (0 : Int32)), (4, .int (0 : Int32)), (3, .int (-6 : Int32)), (2, .int ((1 : Int32) <<< ((S 33 0 ((0 : Int32)).toNatClampNeg) &&& 31))), (0, xr K 7 0), (1, .int a1)]) hX dX7_readCodes_41 (by decide) rfl ?_
  exact g_sub [4, 5, 3, 2, 1, 0] (by rfl) (sf7_readCodes_L43 hX hM hR hV _ _ _ _ _ _ _ h)
set_option maxRecDepth 100000 in
theorem sb7_alike_L2 {K : xK} {X : xX} {out : xR}  (hX : xOK K X RX7 cX7_alike 2) (hM : xM K X out (some .int)) (hR : xRm X 0 0) (hV : (7, 0) ∈ xvl K)  {k2 : xSt → Int32 → Option xR} (hk2 : ∀ (S : xSt) (i1 : Int32), k2 S i1 = some out → xG K X S 2 [(0, xr K 7 0), (1, .int i1)] []) {S : xSt} {i1 : Int32} (h : b7_alike_L2   k2 S i1 = some out) : xG K X S 2 [(0, xr K 7 0), (1, .int i1)] [] := by
  unfold b7_alike_L2 at h
  refine g_iload_n hX dX7_alike_2 rfl 1 rfl ?_
  refine g_aload_n hX dX7_alike_3 rfl 0 rfl ?_
  refine g_getI hX hV xf7_143 dX7_alike_4 ?_
  refine g_icmp_ge hX 44 dX7_alike_7 (by decide) (fun hc => ?_) (fun hc => ?_)
  · have h := xif_t hc h
    refine g_iload_n hX dX7_alike_44 rfl 1 rfl ?_
    exact g_iret hX hM (Option.some.inj h) dX7_alike_45
  · have h := xif_f hc h
    refine g_iload_n hX dX7_alike_10 rfl 1 rfl ?_
    refine g_aload_n hX dX7_alike_11 rfl 0 rfl ?_
    refine g_getR hX hV (xf7_7 _) dX7_alike_12 ?_
    refine g_iconst (v := (3 : Int32)) hX dX7_alike_15 (by decide) ?_
    obtain ⟨hbj1, h⟩ := xat_inv h
    refine g_iald (n := 560) hX (xvc_7_0 hX.vc hV) rfl hbj1 dX7_alike_16 ?_
    refine g_icmp_ge hX 44 dX7_alike_17 (by decide) (fun hc => ?_) (fun hc => ?_)
    · have h := xif_t hc h
      refine g_iload_n hX dX7_alike_44 rfl 1 rfl ?_
      exact g_iret hX hM (Option.some.inj h) dX7_alike_45
    · have h := xif_f hc h
      refine g_aload_n hX dX7_alike_20 rfl 0 rfl ?_
      refine g_getR hX hV (xf7_63 _) dX7_alike_21 ?_
      refine g_iload_n hX dX7_alike_24 rfl 1 rfl ?_
      obtain ⟨hbj2, h⟩ := xat_inv h
      refine g_bald (n := 48000) hX (xvc_7_23 hX.vc hV) rfl hbj2 dX7_alike_25 ?_
      refine g_aload_n hX dX7_alike_26 rfl 0 rfl ?_
      refine g_getR hX hV (xf7_7 _) dX7_alike_27 ?_
      refine g_bipush (v := (10 : Int32)) hX dX7_alike_30 (by decide) ?_
      refine g_iload_n hX dX7_alike_32 rfl 1 rfl ?_
      refine g_iadd hX dX7_alike_33 ?_
      obtain ⟨hbj3, h⟩ := xat_inv h
      refine g_iald (n := 560) hX (xvc_7_0 hX.vc hV) rfl hbj3 dX7_alike_34 ?_
      refine g_icmp_ne hX 44 dX7_alike_35 (by decide) (fun hc => ?_) (fun hc => ?_)
      · have h := xif_f hc h
        refine g_iload_n hX dX7_alike_44 rfl 1 rfl ?_
        exact g_iret hX hM (Option.some.inj h) dX7_alike_45
      · have h := xif_t hc h
        refine g_iinc (v := (i1 + (1 : Int32))) (lv2 := [(1, .int (i1 + (1 : Int32))), (0, xr K 7 0)]) hX dX7_alike_38 1 rfl rfl (by decide) rfl ?_
        refine g_goto hX 2 dX7_alike_41 (by decide) ?_
        exact g_sub [1, 0] (by rfl) (hk2 _ _ h)
theorem sf7_alike_L2 {K : xK} {X : xX} {out : xR}  (hX : xOK K X RX7 cX7_alike 2) (hM : xM K X out (some .int)) (hR : xRm X 0 0) (hV : (7, 0) ∈ xvl K)  : ∀ (n : Nat) (S : xSt) (i1 : Int32) (h : f7_alike_L2   n S i1 = some out), xG K X S 2 [(0, xr K 7 0), (1, .int i1)] [] := by
  intro n
  induction n with
  | zero => intro S i1 h; cases h
  | succ n ih => intro S i1 h; exact sb7_alike_L2 hX hM hR hV  ih h
set_option maxRecDepth 100000 in
theorem c7_alike {l : Launch} {K : xK}  (hvc : xVC (xvl K)) (hV : (7, 0) ∈ xvl K) {S : xSt}  {out : xR} (h : f7_alike S   = some out) : xMet l K yX7_alike cX7_alike 2 (some .int) 0 0 S [xr K 7 0] out := by
  refine xMet_of RX7 (by decide +kernel) rfl hvc (Nat.le_of_ble_eq_true rfl) ?_
  intro X hX hM hR
  show xG K X S 0 [(0, xr K 7 0)] []
  unfold f7_alike at h
  refine g_iconst (v := (0 : Int32)) hX dX7_alike_0 (by decide) ?_
  refine g_istore_n (lv2 := [(1, .int (0 : Int32)), (0, xr K 7 0)]) hX dX7_alike_1 rfl (by decide) rfl ?_
  exact g_sub [1, 0] (by rfl) (sf7_alike_L2 hX hM hR hV _ _ _ h)
set_option maxRecDepth 100000 in
theorem sf7_reading_J110 {K : xK} {X : xX} {out : xR}  (hX : xOK K X RX7 cX7_reading 2) (hM : xM K X out (some .int)) (hR : xRm X 3 73) (hV : (7, 0) ∈ xvl K)  {S : xSt}  (h : f7_reading_J110   S  = some out) : xG K X S 110 [(0, xr K 7 0)] [] := by
  unfold f7_reading_J110 at h
  refine g_aload_n hX dX7_reading_110 rfl 0 rfl ?_
  obtain ⟨S1, r2, hcS1, h⟩ := xbI_inv h
  refine g_callV hX hR hV (fun l => c7_alike (l := l) hX.vc hV hcS1) xc7_162 rfl ⟨by decide, by decide⟩ rfl rfl (Nat.le_of_ble_eq_true rfl) dX7_reading_111 ?_
  exact g_iret hX hM (Option.some.inj h) dX7_reading_114
set_option maxRecDepth 100000 in
theorem c7_reading {l : Launch} {K : xK}  (hvc : xVC (xvl K)) (hV : (7, 0) ∈ xvl K) {S : xSt} {a1 : Int32} {out : xR} (h : f7_reading S  a1 = some out) : xMet l K yX7_reading cX7_reading 2 (some .int) 3 73 S [xr K 7 0, .int a1] out := by
  refine xMet_of RX7 (by decide +kernel) rfl hvc (Nat.le_of_ble_eq_true rfl) ?_
  intro X hX hM hR
  show xG K X S 0 [(0, xr K 7 0), (1, .int a1)] []
  unfold f7_reading at h
  refine g_iload_n hX dX7_reading_0 rfl 1 rfl ?_
  refine g_iconst (v := (0 : Int32)) hX dX7_reading_1 (by decide) ?_
  refine g_iconst (v := (5 : Int32)) hX dX7_reading_2 (by decide) ?_
  obtain ⟨S1, r2, hcS1, h⟩ := xbI_inv h
  refine g_callS hX hR (fun l => c7_in (l := l) hX.vc hcS1) xc7_71 rfl ⟨by decide, by decide⟩ rfl rfl (Nat.le_of_ble_eq_true rfl) dX7_reading_3 ?_
  refine g_if_ne hX 12 dX7_reading_6 (by decide) (fun hc => ?_) (fun hc => ?_)
  · have h := xif_f hc h
    refine g_aload_n hX dX7_reading_12 rfl 0 rfl ?_
    obtain ⟨S3, hcS3, h⟩ := xbV_inv h
    refine g_callV hX hR hV (fun l => c7_writeNow (l := l) hX.vc hV hcS3) xc7_116 rfl ⟨by decide, by decide⟩ rfl rfl (Nat.le_of_ble_eq_true rfl) dX7_reading_13 ?_
    refine g_aload_n hX dX7_reading_16 rfl 0 rfl ?_
    refine g_bipush (v := (-6 : Int32)) hX dX7_reading_17 (by decide) ?_
    obtain ⟨S4, hcS4, h⟩ := xbV_inv h
    refine g_callV hX hR hV (fun l => c7_readCodes (l := l) hX.vc hV hcS4) xc7_159 rfl ⟨by decide, by decide⟩ rfl rfl (Nat.le_of_ble_eq_true rfl) dX7_reading_19 ?_
    refine g_iload_n hX dX7_reading_22 rfl 1 rfl ?_
    by_cases hc : a1.toInt < 0 ∨ 4 < a1.toInt
    · have h := xif_t hc h
      refine g_tsOut hX 81 dX7_reading_23 hc (by decide) ?_
      refine g_aload_n hX dX7_reading_81 rfl 0 rfl ?_
      obtain ⟨S5, r6, hcS5, h⟩ := xbI_inv h
      refine g_callV hX hR hV (fun l => c7_alike (l := l) hX.vc hV hcS5) xc7_162 rfl ⟨by decide, by decide⟩ rfl rfl (Nat.le_of_ble_eq_true rfl) dX7_reading_82 ?_
      refine g_aload_n hX dX7_reading_85 rfl 0 rfl ?_
      refine g_getI hX hV xf7_143 dX7_reading_86 ?_
      refine g_icmp_ne hX 110 dX7_reading_89 (by decide) (fun hc => ?_) (fun hc => ?_)
      · have h := xif_f hc h
        exact g_sub [0] (by rfl) (sf7_reading_J110 hX hM hR hV h)
      · have h := xif_t hc h
        refine g_aload_n hX dX7_reading_92 rfl 0 rfl ?_
        refine g_getI hX hV xf7_143 dX7_reading_93 ?_
        refine g_aload_n hX dX7_reading_96 rfl 0 rfl ?_
        refine g_getR hX hV (xf7_7 _) dX7_reading_97 ?_
        refine g_iconst (v := (3 : Int32)) hX dX7_reading_100 (by decide) ?_
        obtain ⟨hbj7, h⟩ := xat_inv h
        refine g_iald (n := 560) hX (xvc_7_0 hX.vc hV) rfl hbj7 dX7_reading_101 ?_
        refine g_icmp_ne hX 110 dX7_reading_102 (by decide) (fun hc => ?_) (fun hc => ?_)
        · have h := xif_f hc h
          exact g_sub [0] (by rfl) (sf7_reading_J110 hX hM hR hV h)
        · have h := xif_t hc h
          refine g_bipush (v := (-6 : Int32)) hX dX7_reading_105 (by decide) ?_
          refine g_goto hX 114 dX7_reading_107 (by decide) ?_
          exact g_iret hX hM (Option.some.inj h) dX7_reading_114
    have h := xif_f hc h
    generalize hn : (a1.toInt - 0).toNat = n at h
    match n, hn, h with
    | 0, hn, h =>
      refine g_tsIn hX 56 dX7_reading_23 hc 0 hn (by rfl) (by decide) ?_
      refine g_aload_n hX dX7_reading_56 rfl 0 rfl ?_
      refine g_getI hX hV xf7_143 dX7_reading_57 ?_
      exact g_iret hX hM (Option.some.inj h) dX7_reading_60
    | 1, hn, h =>
      refine g_tsIn hX 61 dX7_reading_23 hc 1 hn (by rfl) (by decide) ?_
      refine g_aload_n hX dX7_reading_61 rfl 0 rfl ?_
      refine g_getI hX hV xf7_146 dX7_reading_62 ?_
      exact g_iret hX hM (Option.some.inj h) dX7_reading_65
    | 2, hn, h =>
      refine g_tsIn hX 66 dX7_reading_23 hc 2 hn (by rfl) (by decide) ?_
      refine g_aload_n hX dX7_reading_66 rfl 0 rfl ?_
      refine g_getI hX hV xf7_149 dX7_reading_67 ?_
      exact g_iret hX hM (Option.some.inj h) dX7_reading_70
    | 3, hn, h =>
      refine g_tsIn hX 71 dX7_reading_23 hc 3 hn (by rfl) (by decide) ?_
      refine g_aload_n hX dX7_reading_71 rfl 0 rfl ?_
      refine g_getI hX hV xf7_85 dX7_reading_72 ?_
      exact g_iret hX hM (Option.some.inj h) dX7_reading_75
    | 4, hn, h =>
      refine g_tsIn hX 76 dX7_reading_23 hc 4 hn (by rfl) (by decide) ?_
      refine g_aload_n hX dX7_reading_76 rfl 0 rfl ?_
      refine g_getI hX hV xf7_152 dX7_reading_77 ?_
      exact g_iret hX hM (Option.some.inj h) dX7_reading_80
    | n + 5, hn, h => cases h
  · have h := xif_t hc h
    refine g_bipush (v := (-2 : Int32)) hX dX7_reading_9 (by decide) ?_
    exact g_iret hX hM (Option.some.inj h) dX7_reading_11
set_option maxRecDepth 100000 in
theorem c7_read {l : Launch} {K : xK}  (hvc : xVC (xvl K)) (hV : (7, 0) ∈ xvl K) {S : xSt} {a1 : Int32} {out : xR} (h : f7_read S  a1 = some out) : xMet l K yX7_read cX7_read 2 (some .int) 3 73 S [xr K 7 0, .int a1] out := by
  refine xMet_of RX7 (by decide +kernel) rfl hvc (Nat.le_of_ble_eq_true rfl) ?_
  intro X hX hM hR
  show xG K X S 0 [(0, xr K 7 0), (1, .int a1)] []
  unfold f7_read at h
  refine g_aload_n hX dX7_read_0 rfl 0 rfl ?_
  obtain ⟨S1, hcS1, h⟩ := xbV_inv h
  refine g_callV hX hR hV (fun l => c7_writeNow (l := l) hX.vc hV hcS1) xc7_116 rfl ⟨by decide, by decide⟩ rfl rfl (Nat.le_of_ble_eq_true rfl) dX7_read_1 ?_
  refine g_aload_n hX dX7_read_4 rfl 0 rfl ?_
  refine g_bipush (v := (-6 : Int32)) hX dX7_read_5 (by decide) ?_
  obtain ⟨S2, hcS2, h⟩ := xbV_inv h
  refine g_callV hX hR hV (fun l => c7_readCodes (l := l) hX.vc hV hcS2) xc7_159 rfl ⟨by decide, by decide⟩ rfl rfl (Nat.le_of_ble_eq_true rfl) dX7_read_7 ?_
  refine g_iload_n hX dX7_read_10 rfl 1 rfl ?_
  refine g_iconst (v := (0 : Int32)) hX dX7_read_11 (by decide) ?_
  refine g_aload_n hX dX7_read_12 rfl 0 rfl ?_
  refine g_getI hX hV xf7_143 dX7_read_13 ?_
  refine g_iconst (v := (1 : Int32)) hX dX7_read_16 (by decide) ?_
  refine g_isub hX dX7_read_17 ?_
  obtain ⟨S3, r4, hcS3, h⟩ := xbI_inv h
  refine g_callS hX hR (fun l => c7_in (l := l) hX.vc hcS3) xc7_71 rfl ⟨by decide, by decide⟩ rfl rfl (Nat.le_of_ble_eq_true rfl) dX7_read_18 ?_
  refine g_if_eq hX 33 dX7_read_21 (by decide) (fun hc => ?_) (fun hc => ?_)
  · have h := xif_t hc h
    refine g_iconst (v := (-1 : Int32)) hX dX7_read_33 (by decide) ?_
    exact g_iret hX hM (Option.some.inj h) dX7_read_34
  · have h := xif_f hc h
    refine g_aload_n hX dX7_read_24 rfl 0 rfl ?_
    refine g_getR hX hV (xf7_63 _) dX7_read_25 ?_
    refine g_iload_n hX dX7_read_28 rfl 1 rfl ?_
    obtain ⟨hbj5, h⟩ := xat_inv h
    refine g_bald (n := 48000) hX (xvc_7_23 hX.vc hV) rfl hbj5 dX7_read_29 ?_
    refine g_goto hX 34 dX7_read_30 (by decide) ?_
    exact g_iret hX hM (Option.some.inj h) dX7_read_34
set_option maxRecDepth 100000 in
theorem c7_bitsWith {l : Launch} {K : xK}  (hvc : xVC (xvl K)) (hV : (7, 0) ∈ xvl K) {S : xSt} {a1 : Int32} {a2 : Int32} {out : xR} (h : f7_bitsWith S  a1 a2 = some out) : xMet l K yX7_bitsWith cX7_bitsWith 3 (some .int) 2 53 S [xr K 7 0, .int a1, .int a2] out := by
  refine xMet_of RX7 (by decide +kernel) rfl hvc (Nat.le_of_ble_eq_true rfl) ?_
  intro X hX hM hR
  show xG K X S 0 [(0, xr K 7 0), (1, .int a1), (2, .int a2)] []
  unfold f7_bitsWith at h
  refine g_iload_n hX dX7_bitsWith_0 rfl 1 rfl ?_
  refine g_iconst (v := (4 : Int32)) hX dX7_bitsWith_1 (by decide) ?_
  refine g_bipush (v := (9 : Int32)) hX dX7_bitsWith_2 (by decide) ?_
  obtain ⟨S1, r2, hcS1, h⟩ := xbI_inv h
  refine g_callS hX hR (fun l => c7_in (l := l) hX.vc hcS1) xc7_71 rfl ⟨by decide, by decide⟩ rfl rfl (Nat.le_of_ble_eq_true rfl) dX7_bitsWith_4 ?_
  refine g_if_eq hX 19 dX7_bitsWith_7 (by decide) (fun hc => ?_) (fun hc => ?_)
  · have h := xif_t hc h
    refine g_bipush (v := (-2 : Int32)) hX dX7_bitsWith_19 (by decide) ?_
    exact g_iret hX hM (Option.some.inj h) dX7_bitsWith_21
  · have h := xif_f hc h
    refine g_iload_n hX dX7_bitsWith_10 rfl 2 rfl ?_
    refine g_iconst (v := (0 : Int32)) hX dX7_bitsWith_11 (by decide) ?_
    refine g_iconst (v := (2 : Int32)) hX dX7_bitsWith_12 (by decide) ?_
    obtain ⟨S3, r4, hcS3, h⟩ := xbI_inv h
    refine g_callS hX hR (fun l => c7_in (l := l) hX.vc hcS3) xc7_71 rfl ⟨by decide, by decide⟩ rfl rfl (Nat.le_of_ble_eq_true rfl) dX7_bitsWith_13 ?_
    refine g_if_ne hX 22 dX7_bitsWith_16 (by decide) (fun hc => ?_) (fun hc => ?_)
    · have h := xif_f hc h
      refine g_aload_n hX dX7_bitsWith_22 rfl 0 rfl ?_
      refine g_iload_n hX dX7_bitsWith_23 rfl 1 rfl ?_
      refine g_iload_n hX dX7_bitsWith_24 rfl 2 rfl ?_
      obtain ⟨S5, hcS5, h⟩ := xbV_inv h
      refine g_callV hX hR hV (fun l => c7_write (l := l) hX.vc hV hcS5) xc7_113 rfl ⟨by decide, by decide⟩ rfl rfl (Nat.le_of_ble_eq_true rfl) dX7_bitsWith_25 ?_
      refine g_aload_n hX dX7_bitsWith_28 rfl 0 rfl ?_
      obtain ⟨S6, r7, hcS6, h⟩ := xbI_inv h
      refine g_callV hX hR hV (fun l => c7_bits (l := l) hX.vc hV hcS6) xc7_134 rfl ⟨by decide, by decide⟩ rfl rfl (Nat.le_of_ble_eq_true rfl) dX7_bitsWith_29 ?_
      exact g_iret hX hM (Option.some.inj h) dX7_bitsWith_32
    · have h := xif_t hc h
      refine g_bipush (v := (-2 : Int32)) hX dX7_bitsWith_19 (by decide) ?_
      exact g_iret hX hM (Option.some.inj h) dX7_bitsWith_21
set_option maxRecDepth 100000 in
theorem sf7_best_J82 {K : xK} {X : xX} {out : xR}  (hX : xOK K X RX7 cX7_best 6) (hM : xM K X out (some .int)) (hR : xRm X 2 53) (hV : (7, 0) ∈ xvl K)  {S : xSt} {i1 : Int32} {i2 : Int32} {i3 : Int32} (h : f7_best_J82   S i1 i2 i3 = some out) : xG K X S 82 [(1, .int i1), (2, .int i2), (3, .int i3)] [] := by
  unfold f7_best_J82 at h
  refine g_iload_n hX dX7_best_82 rfl 0 rfl ?_
  refine g_if_ne hX 93 dX7_best_83 (by decide) (fun hc => ?_) (fun hc => ?_)
  · have h := xif_f hc h
    refine g_iload_n hX dX7_best_93 rfl 0 rfl ?_
    refine g_iconst (v := (1 : Int32)) hX dX7_best_94 (by decide) ?_
    refine g_icmp_ne hX 105 dX7_best_95 (by decide) (fun hc => ?_) (fun hc => ?_)
    · have h := xif_f hc h
      refine g_iload_n hX dX7_best_105 rfl 2 rfl ?_
      exact g_iret hX hM (Option.some.inj h) dX7_best_106
    · have h := xif_t hc h
      refine g_iload_n hX dX7_best_98 rfl 1 rfl ?_
      refine g_bipush (v := (10 : Int32)) hX dX7_best_99 (by decide) ?_
      obtain ⟨hn, h⟩ := xne_inv h
      refine g_irem hX dX7_best_101 hn ?_
      refine g_goto hX 106 dX7_best_102 (by decide) ?_
      exact g_iret hX hM (Option.some.inj h) dX7_best_106
  · have h := xif_t hc h
    refine g_iload_n hX dX7_best_86 rfl 1 rfl ?_
    refine g_bipush (v := (10 : Int32)) hX dX7_best_87 (by decide) ?_
    obtain ⟨hn, h⟩ := xne_inv h
    refine g_idiv hX dX7_best_89 hn ?_
    refine g_goto hX 106 dX7_best_90 (by decide) ?_
    exact g_iret hX hM (Option.some.inj h) dX7_best_106
set_option maxRecDepth 100000 in
theorem sf7_best_J76 {K : xK} {X : xX} {out : xR}  (hX : xOK K X RX7 cX7_best 6) (hM : xM K X out (some .int)) (hR : xRm X 2 53) (hV : (7, 0) ∈ xvl K) {k20 : xSt → Int32 → Int32 → Int32 → Int32 → Option xR} (hk20 : ∀ (S : xSt) (i1 : Int32) (i2 : Int32) (i3 : Int32) (i4 : Int32), k20 S i1 i2 i3 i4 = some out → xG K X S 20 [(0, xr K 7 0), (1, .int i1), (2, .int i2), (3, .int i3), (4, .int i4)] []) {S : xSt} {i1 : Int32} {i2 : Int32} {i3 : Int32} {i4 : Int32} (h : f7_best_J76  k20 S i1 i2 i3 i4 = some out) : xG K X S 76 [(0, xr K 7 0), (1, .int i1), (2, .int i2), (3, .int i3), (4, .int i4)] [] := by
  unfold f7_best_J76 at h
  refine g_iinc (v := (i4 + (1 : Int32))) (lv2 := [(4, .int (i4 + (1 : Int32))), (0, xr K 7 0), (1, .int i1), (2, .int i2), (3, .int i3)]) hX dX7_best_76 4 rfl rfl (by decide) rfl ?_
  refine g_goto hX 20 dX7_best_79 (by decide) ?_
  exact g_sub [1, 2, 3, 4, 0] (by rfl) (hk20 _ _ _ _ _ h)
set_option maxRecDepth 100000 in
theorem sf7_best_J70 {K : xK} {X : xX} {out : xR}  (hX : xOK K X RX7 cX7_best 6) (hM : xM K X out (some .int)) (hR : xRm X 2 53) (hV : (7, 0) ∈ xvl K) {k20 : xSt → Int32 → Int32 → Int32 → Int32 → Option xR} (hk20 : ∀ (S : xSt) (i1 : Int32) (i2 : Int32) (i3 : Int32) (i4 : Int32), k20 S i1 i2 i3 i4 = some out → xG K X S 20 [(0, xr K 7 0), (1, .int i1), (2, .int i2), (3, .int i3), (4, .int i4)] []) {k30 : xSt → Int32 → Int32 → Int32 → Int32 → Int32 → Option xR} (hk30 : ∀ (S : xSt) (i1 : Int32) (i2 : Int32) (i3 : Int32) (i4 : Int32) (i5 : Int32), k30 S i1 i2 i3 i4 i5 = some out → xG K X S 30 [(0, xr K 7 0), (1, .int i1), (2, .int i2), (3, .int i3), (4, .int i4), (5, .int i5)] []) {S : xSt} {i1 : Int32} {i2 : Int32} {i3 : Int32} {i4 : Int32} {i5 : Int32} (h : f7_best_J70  k20 k30 S i1 i2 i3 i4 i5 = some out) : xG K X S 70 [(0, xr K 7 0), (1, .int i1), (2, .int i2), (3, .int i3), (4, .int i4), (5, .int i5)] [] := by
  unfold f7_best_J70 at h
  refine g_iinc (v := (i5 + (1 : Int32))) (lv2 := [(5, .int (i5 + (1 : Int32))), (0, xr K 7 0), (1, .int i1), (2, .int i2), (3, .int i3), (4, .int i4)]) hX dX7_best_70 5 rfl rfl (by decide) rfl ?_
  refine g_goto hX 30 dX7_best_73 (by decide) ?_
  exact g_sub [1, 2, 3, 4, 5, 0] (by rfl) (hk30 _ _ _ _ _ _ h)
set_option maxRecDepth 100000 in
theorem sf7_best_J56 {K : xK} {X : xX} {out : xR}  (hX : xOK K X RX7 cX7_best 6) (hM : xM K X out (some .int)) (hR : xRm X 2 53) (hV : (7, 0) ∈ xvl K) {k20 : xSt → Int32 → Int32 → Int32 → Int32 → Option xR} (hk20 : ∀ (S : xSt) (i1 : Int32) (i2 : Int32) (i3 : Int32) (i4 : Int32), k20 S i1 i2 i3 i4 = some out → xG K X S 20 [(0, xr K 7 0), (1, .int i1), (2, .int i2), (3, .int i3), (4, .int i4)] []) {k30 : xSt → Int32 → Int32 → Int32 → Int32 → Int32 → Option xR} (hk30 : ∀ (S : xSt) (i1 : Int32) (i2 : Int32) (i3 : Int32) (i4 : Int32) (i5 : Int32), k30 S i1 i2 i3 i4 i5 = some out → xG K X S 30 [(0, xr K 7 0), (1, .int i1), (2, .int i2), (3, .int i3), (4, .int i4), (5, .int i5)] []) {S : xSt} {i1 : Int32} {i4 : Int32} {i5 : Int32} (h : f7_best_J56  k20 k30 S i1 i4 i5 = some out) : xG K X S 56 [(0, xr K 7 0), (1, .int i1), (4, .int i4), (5, .int i5)] [] := by
  unfold f7_best_J56 at h
  refine g_bipush (v := (10 : Int32)) hX dX7_best_56 (by decide) ?_
  refine g_iload hX dX7_best_58 2 rfl ?_
  refine g_imul hX dX7_best_60 ?_
  refine g_iload hX dX7_best_61 3 rfl ?_
  refine g_iadd hX dX7_best_63 ?_
  refine g_istore_n (lv2 := [(2, .int (((10 : Int32) * i4) + i5)), (0, xr K 7 0), (1, .int i1), (4, .int i4), (5, .int i5)]) hX dX7_best_64 rfl (by decide) rfl ?_
  refine g_aload_n hX dX7_best_65 rfl 1 rfl ?_
  obtain ⟨S1, r2, hcS1, h⟩ := xbI_inv h
  refine g_callV hX hR hV (fun l => c7_bits (l := l) hX.vc hV hcS1) xc7_134 rfl ⟨by decide, by decide⟩ rfl rfl (Nat.le_of_ble_eq_true rfl) dX7_best_66 ?_
  refine g_istore_n (lv2 := [(3, .int r2), (2, .int (((10 : Int32) * i4) + i5)), (0, xr K 7 0), (1, .int i1), (4, .int i4), (5, .int i5)]) hX dX7_best_69 rfl (by decide) rfl ?_
  exact g_sub [2, 3, 1, 0, 4, 5] (by rfl) (sf7_best_J70 hX hM hR hV hk20 hk30 h)
set_option maxRecDepth 100000 in
theorem sb7_best_L30 {K : xK} {X : xX} {out : xR}  (hX : xOK K X RX7 cX7_best 6) (hM : xM K X out (some .int)) (hR : xRm X 2 53) (hV : (7, 0) ∈ xvl K) {k20 : xSt → Int32 → Int32 → Int32 → Int32 → Option xR} (hk20 : ∀ (S : xSt) (i1 : Int32) (i2 : Int32) (i3 : Int32) (i4 : Int32), k20 S i1 i2 i3 i4 = some out → xG K X S 20 [(0, xr K 7 0), (1, .int i1), (2, .int i2), (3, .int i3), (4, .int i4)] []) {k30 : xSt → Int32 → Int32 → Int32 → Int32 → Int32 → Option xR} (hk30 : ∀ (S : xSt) (i1 : Int32) (i2 : Int32) (i3 : Int32) (i4 : Int32) (i5 : Int32), k30 S i1 i2 i3 i4 i5 = some out → xG K X S 30 [(0, xr K 7 0), (1, .int i1), (2, .int i2), (3, .int i3), (4, .int i4), (5, .int i5)] []) {S : xSt} {i1 : Int32} {i2 : Int32} {i3 : Int32} {i4 : Int32} {i5 : Int32} (h : b7_best_L30  k20 k30 S i1 i2 i3 i4 i5 = some out) : xG K X S 30 [(0, xr K 7 0), (1, .int i1), (2, .int i2), (3, .int i3), (4, .int i4), (5, .int i5)] [] := by
  unfold b7_best_L30 at h
  refine g_iload hX dX7_best_30 5 rfl ?_
  refine g_iconst (v := (3 : Int32)) hX dX7_best_32 (by decide) ?_
  refine g_icmp_ge hX 76 dX7_best_33 (by decide) (fun hc => ?_) (fun hc => ?_)
  · have h := xif_t hc h
    exact g_sub [0, 1, 2, 3, 4] (by rfl) (sf7_best_J76 hX hM hR hV hk20 h)
  · have h := xif_f hc h
    refine g_aload_n hX dX7_best_36 rfl 0 rfl ?_
    refine g_iload hX dX7_best_37 4 rfl ?_
    refine g_iload hX dX7_best_39 5 rfl ?_
    obtain ⟨S1, hcS1, h⟩ := xbV_inv h
    refine g_callV hX hR hV (fun l => c7_write (l := l) hX.vc hV hcS1) xc7_113 rfl ⟨by decide, by decide⟩ rfl rfl (Nat.le_of_ble_eq_true rfl) dX7_best_41 ?_
    refine g_iload_n hX dX7_best_44 rfl 2 rfl ?_
    refine g_if_lt hX 56 dX7_best_45 (by decide) (fun hc => ?_) (fun hc => ?_)
    · have h := xif_t hc h
      exact g_sub [0, 1, 4, 5] (by rfl) (sf7_best_J56 hX hM hR hV hk20 hk30 h)
    · have h := xif_f hc h
      refine g_aload_n hX dX7_best_48 rfl 0 rfl ?_
      obtain ⟨S2, r3, hcS2, h⟩ := xbI_inv h
      refine g_callV hX hR hV (fun l => c7_bits (l := l) hX.vc hV hcS2) xc7_134 rfl ⟨by decide, by decide⟩ rfl rfl (Nat.le_of_ble_eq_true rfl) dX7_best_49 ?_
      refine g_iload_n hX dX7_best_52 rfl 3 rfl ?_
      refine g_icmp_ge hX 70 dX7_best_53 (by decide) (fun hc => ?_) (fun hc => ?_)
      · have h := xif_t hc h
        exact sf7_best_J70 hX hM hR hV hk20 hk30 h
      · have h := xif_f hc h
        exact g_sub [0, 1, 4, 5] (by rfl) (sf7_best_J56 hX hM hR hV hk20 hk30 h)
theorem sf7_best_L30 {K : xK} {X : xX} {out : xR}  (hX : xOK K X RX7 cX7_best 6) (hM : xM K X out (some .int)) (hR : xRm X 2 53) (hV : (7, 0) ∈ xvl K) {k20 : xSt → Int32 → Int32 → Int32 → Int32 → Option xR} (hk20 : ∀ (S : xSt) (i1 : Int32) (i2 : Int32) (i3 : Int32) (i4 : Int32), k20 S i1 i2 i3 i4 = some out → xG K X S 20 [(0, xr K 7 0), (1, .int i1), (2, .int i2), (3, .int i3), (4, .int i4)] []) : ∀ (n : Nat) (S : xSt) (i1 : Int32) (i2 : Int32) (i3 : Int32) (i4 : Int32) (i5 : Int32) (h : f7_best_L30  k20 n S i1 i2 i3 i4 i5 = some out), xG K X S 30 [(0, xr K 7 0), (1, .int i1), (2, .int i2), (3, .int i3), (4, .int i4), (5, .int i5)] [] := by
  intro n
  induction n with
  | zero => intro S i1 i2 i3 i4 i5 h; cases h
  | succ n ih => intro S i1 i2 i3 i4 i5 h; exact sb7_best_L30 hX hM hR hV hk20 ih h
set_option maxRecDepth 100000 in
theorem sb7_best_L20 {K : xK} {X : xX} {out : xR}  (hX : xOK K X RX7 cX7_best 6) (hM : xM K X out (some .int)) (hR : xRm X 2 53) (hV : (7, 0) ∈ xvl K)  {k20 : xSt → Int32 → Int32 → Int32 → Int32 → Option xR} (hk20 : ∀ (S : xSt) (i1 : Int32) (i2 : Int32) (i3 : Int32) (i4 : Int32), k20 S i1 i2 i3 i4 = some out → xG K X S 20 [(0, xr K 7 0), (1, .int i1), (2, .int i2), (3, .int i3), (4, .int i4)] []) {S : xSt} {i1 : Int32} {i2 : Int32} {i3 : Int32} {i4 : Int32} (h : b7_best_L20   k20 S i1 i2 i3 i4 = some out) : xG K X S 20 [(0, xr K 7 0), (1, .int i1), (2, .int i2), (3, .int i3), (4, .int i4)] [] := by
  unfold b7_best_L20 at h
  refine g_iload hX dX7_best_20 4 rfl ?_
  refine g_bipush (v := (10 : Int32)) hX dX7_best_22 (by decide) ?_
  refine g_icmp_ge hX 82 dX7_best_24 (by decide) (fun hc => ?_) (fun hc => ?_)
  · have h := xif_t hc h
    exact g_sub [1, 2, 3] (by rfl) (sf7_best_J82 hX hM hR hV h)
  · have h := xif_f hc h
    refine g_iconst (v := (0 : Int32)) hX dX7_best_27 (by decide) ?_
    refine g_istore (lv2 := [(5, .int (0 : Int32)), (0, xr K 7 0), (1, .int i1), (2, .int i2), (3, .int i3), (4, .int i4)]) hX dX7_best_28 (by decide) rfl ?_
    exact g_sub [1, 2, 3, 4, 5, 0] (by rfl) (sf7_best_L30 hX hM hR hV hk20 _ _ _ _ _ _ _ h)
theorem sf7_best_L20 {K : xK} {X : xX} {out : xR}  (hX : xOK K X RX7 cX7_best 6) (hM : xM K X out (some .int)) (hR : xRm X 2 53) (hV : (7, 0) ∈ xvl K)  : ∀ (n : Nat) (S : xSt) (i1 : Int32) (i2 : Int32) (i3 : Int32) (i4 : Int32) (h : f7_best_L20   n S i1 i2 i3 i4 = some out), xG K X S 20 [(0, xr K 7 0), (1, .int i1), (2, .int i2), (3, .int i3), (4, .int i4)] [] := by
  intro n
  induction n with
  | zero => intro S i1 i2 i3 i4 h; cases h
  | succ n ih => intro S i1 i2 i3 i4 h; exact sb7_best_L20 hX hM hR hV  ih h
set_option maxRecDepth 100000 in
theorem c7_best {l : Launch} {K : xK}  (hvc : xVC (xvl K)) (hV : (7, 0) ∈ xvl K) {S : xSt} {a1 : Int32} {out : xR} (h : f7_best S  a1 = some out) : xMet l K yX7_best cX7_best 6 (some .int) 2 53 S [xr K 7 0, .int a1] out := by
  refine xMet_of RX7 (by decide +kernel) rfl hvc (Nat.le_of_ble_eq_true rfl) ?_
  intro X hX hM hR
  show xG K X S 0 [(0, xr K 7 0), (1, .int a1)] []
  unfold f7_best at h
  refine g_iload_n hX dX7_best_0 rfl 1 rfl ?_
  refine g_iconst (v := (0 : Int32)) hX dX7_best_1 (by decide) ?_
  refine g_iconst (v := (2 : Int32)) hX dX7_best_2 (by decide) ?_
  obtain ⟨S1, r2, hcS1, h⟩ := xbI_inv h
  refine g_callS hX hR (fun l => c7_in (l := l) hX.vc hcS1) xc7_71 rfl ⟨by decide, by decide⟩ rfl rfl (Nat.le_of_ble_eq_true rfl) dX7_best_3 ?_
  refine g_if_ne hX 12 dX7_best_6 (by decide) (fun hc => ?_) (fun hc => ?_)
  · have h := xif_f hc h
    refine g_bipush (v := (-6 : Int32)) hX dX7_best_12 (by decide) ?_
    refine g_istore_n (lv2 := [(2, .int (-6 : Int32)), (0, xr K 7 0), (1, .int a1)]) hX dX7_best_14 rfl (by decide) rfl ?_
    refine g_iconst (v := (0 : Int32)) hX dX7_best_15 (by decide) ?_
    refine g_istore_n (lv2 := [(3, .int (0 : Int32)), (2, .int (-6 : Int32)), (0, xr K 7 0), (1, .int a1)]) hX dX7_best_16 rfl (by decide) rfl ?_
    refine g_iconst (v := (4 : Int32)) hX dX7_best_17 (by decide) ?_
    refine g_istore (lv2 := [(4, .int (4 : Int32)), (3, .int (0 : Int32)), (2, .int (-6 : Int32)), (0, xr K 7 0), (1, .int a1)]) hX dX7_best_18 (by decide) rfl ?_
    exact g_sub [3, 4, 2, 1, 0] (by rfl) (sf7_best_L20 hX hM hR hV _ _ _ _ _ _ h)
  · have h := xif_t hc h
    refine g_bipush (v := (-2 : Int32)) hX dX7_best_9 (by decide) ?_
    exact g_iret hX hM (Option.some.inj h) dX7_best_11
set_option maxRecDepth 100000 in
theorem sf7_tenderest_J65 {K : xK} {X : xX} {out : xR}  (hX : xOK K X RX7 cX7_tenderest 5) (hM : xM K X out (some .int)) (hR : xRm X 3 73) (hV : (7, 0) ∈ xvl K)  {S : xSt} {i1 : Int32} {i2 : Int32} {i3 : Int32} (h : f7_tenderest_J65   S i1 i2 i3 = some out) : xG K X S 65 [(1, .int i1), (2, .int i2), (3, .int i3)] [] := by
  unfold f7_tenderest_J65 at h
  refine g_iload_n hX dX7_tenderest_65 rfl 0 rfl ?_
  refine g_if_ne hX 73 dX7_tenderest_66 (by decide) (fun hc => ?_) (fun hc => ?_)
  · have h := xif_f hc h
    refine g_iload_n hX dX7_tenderest_73 rfl 2 rfl ?_
    exact g_iret hX hM (Option.some.inj h) dX7_tenderest_74
  · have h := xif_t hc h
    refine g_iload_n hX dX7_tenderest_69 rfl 1 rfl ?_
    refine g_goto hX 74 dX7_tenderest_70 (by decide) ?_
    exact g_iret hX hM (Option.some.inj h) dX7_tenderest_74
set_option maxRecDepth 100000 in
theorem sf7_tenderest_J59 {K : xK} {X : xX} {out : xR}  (hX : xOK K X RX7 cX7_tenderest 5) (hM : xM K X out (some .int)) (hR : xRm X 3 73) (hV : (7, 0) ∈ xvl K) {k24 : xSt → Int32 → Int32 → Int32 → Int32 → Option xR} (hk24 : ∀ (S : xSt) (i1 : Int32) (i2 : Int32) (i3 : Int32) (i4 : Int32), k24 S i1 i2 i3 i4 = some out → xG K X S 24 [(0, xr K 7 0), (1, .int i1), (2, .int i2), (3, .int i3), (4, .int i4)] []) {S : xSt} {i1 : Int32} {i2 : Int32} {i3 : Int32} {i4 : Int32} (h : f7_tenderest_J59  k24 S i1 i2 i3 i4 = some out) : xG K X S 59 [(0, xr K 7 0), (1, .int i1), (2, .int i2), (3, .int i3), (4, .int i4)] [] := by
  unfold f7_tenderest_J59 at h
  refine g_iinc (v := (i4 + (1 : Int32))) (lv2 := [(4, .int (i4 + (1 : Int32))), (0, xr K 7 0), (1, .int i1), (2, .int i2), (3, .int i3)]) hX dX7_tenderest_59 4 rfl rfl (by decide) rfl ?_
  refine g_goto hX 24 dX7_tenderest_62 (by decide) ?_
  exact g_sub [1, 2, 3, 4, 0] (by rfl) (hk24 _ _ _ _ _ h)
set_option maxRecDepth 100000 in
theorem sf7_tenderest_J51 {K : xK} {X : xX} {out : xR}  (hX : xOK K X RX7 cX7_tenderest 5) (hM : xM K X out (some .int)) (hR : xRm X 3 73) (hV : (7, 0) ∈ xvl K) {k24 : xSt → Int32 → Int32 → Int32 → Int32 → Option xR} (hk24 : ∀ (S : xSt) (i1 : Int32) (i2 : Int32) (i3 : Int32) (i4 : Int32), k24 S i1 i2 i3 i4 = some out → xG K X S 24 [(0, xr K 7 0), (1, .int i1), (2, .int i2), (3, .int i3), (4, .int i4)] []) {S : xSt} {i1 : Int32} {i4 : Int32} (h : f7_tenderest_J51  k24 S i1 i4 = some out) : xG K X S 51 [(0, xr K 7 0), (1, .int i1), (4, .int i4)] [] := by
  unfold f7_tenderest_J51 at h
  refine g_iload hX dX7_tenderest_51 2 rfl ?_
  refine g_istore_n (lv2 := [(2, .int i4), (0, xr K 7 0), (1, .int i1), (4, .int i4)]) hX dX7_tenderest_53 rfl (by decide) rfl ?_
  refine g_aload_n hX dX7_tenderest_54 rfl 1 rfl ?_
  obtain ⟨S1, r2, hcS1, h⟩ := xbI_inv h
  refine g_callV hX hR hV (fun l => c7_alike (l := l) hX.vc hV hcS1) xc7_162 rfl ⟨by decide, by decide⟩ rfl rfl (Nat.le_of_ble_eq_true rfl) dX7_tenderest_55 ?_
  refine g_istore_n (lv2 := [(3, .int r2), (2, .int i4), (0, xr K 7 0), (1, .int i1), (4, .int i4)]) hX dX7_tenderest_58 rfl (by decide) rfl ?_
  exact g_sub [2, 3, 1, 0, 4] (by rfl) (sf7_tenderest_J59 hX hM hR hV hk24 h)
set_option maxRecDepth 100000 in
theorem sb7_tenderest_L24 {K : xK} {X : xX} {out : xR}  (hX : xOK K X RX7 cX7_tenderest 5) (hM : xM K X out (some .int)) (hR : xRm X 3 73) (hV : (7, 0) ∈ xvl K)  {k24 : xSt → Int32 → Int32 → Int32 → Int32 → Option xR} (hk24 : ∀ (S : xSt) (i1 : Int32) (i2 : Int32) (i3 : Int32) (i4 : Int32), k24 S i1 i2 i3 i4 = some out → xG K X S 24 [(0, xr K 7 0), (1, .int i1), (2, .int i2), (3, .int i3), (4, .int i4)] []) {S : xSt} {i1 : Int32} {i2 : Int32} {i3 : Int32} {i4 : Int32} (h : b7_tenderest_L24   k24 S i1 i2 i3 i4 = some out) : xG K X S 24 [(0, xr K 7 0), (1, .int i1), (2, .int i2), (3, .int i3), (4, .int i4)] [] := by
  unfold b7_tenderest_L24 at h
  refine g_iload hX dX7_tenderest_24 4 rfl ?_
  refine g_aload_n hX dX7_tenderest_26 rfl 0 rfl ?_
  refine g_getI hX hV xf7_88 dX7_tenderest_27 ?_
  refine g_icmp_ge hX 65 dX7_tenderest_30 (by decide) (fun hc => ?_) (fun hc => ?_)
  · have h := xif_t hc h
    exact g_sub [1, 2, 3] (by rfl) (sf7_tenderest_J65 hX hM hR hV h)
  · have h := xif_f hc h
    refine g_aload_n hX dX7_tenderest_33 rfl 0 rfl ?_
    refine g_iload hX dX7_tenderest_34 4 rfl ?_
    obtain ⟨S1, hcS1, h⟩ := xbV_inv h
    refine g_callV hX hR hV (fun l => c7_readCodes (l := l) hX.vc hV hcS1) xc7_159 rfl ⟨by decide, by decide⟩ rfl rfl (Nat.le_of_ble_eq_true rfl) dX7_tenderest_36 ?_
    refine g_iload_n hX dX7_tenderest_39 rfl 2 rfl ?_
    refine g_if_lt hX 51 dX7_tenderest_40 (by decide) (fun hc => ?_) (fun hc => ?_)
    · have h := xif_t hc h
      exact g_sub [0, 1, 4] (by rfl) (sf7_tenderest_J51 hX hM hR hV hk24 h)
    · have h := xif_f hc h
      refine g_aload_n hX dX7_tenderest_43 rfl 0 rfl ?_
      obtain ⟨S2, r3, hcS2, h⟩ := xbI_inv h
      refine g_callV hX hR hV (fun l => c7_alike (l := l) hX.vc hV hcS2) xc7_162 rfl ⟨by decide, by decide⟩ rfl rfl (Nat.le_of_ble_eq_true rfl) dX7_tenderest_44 ?_
      refine g_iload_n hX dX7_tenderest_47 rfl 3 rfl ?_
      refine g_icmp_ge hX 59 dX7_tenderest_48 (by decide) (fun hc => ?_) (fun hc => ?_)
      · have h := xif_t hc h
        exact sf7_tenderest_J59 hX hM hR hV hk24 h
      · have h := xif_f hc h
        exact g_sub [0, 1, 4] (by rfl) (sf7_tenderest_J51 hX hM hR hV hk24 h)
theorem sf7_tenderest_L24 {K : xK} {X : xX} {out : xR}  (hX : xOK K X RX7 cX7_tenderest 5) (hM : xM K X out (some .int)) (hR : xRm X 3 73) (hV : (7, 0) ∈ xvl K)  : ∀ (n : Nat) (S : xSt) (i1 : Int32) (i2 : Int32) (i3 : Int32) (i4 : Int32) (h : f7_tenderest_L24   n S i1 i2 i3 i4 = some out), xG K X S 24 [(0, xr K 7 0), (1, .int i1), (2, .int i2), (3, .int i3), (4, .int i4)] [] := by
  intro n
  induction n with
  | zero => intro S i1 i2 i3 i4 h; cases h
  | succ n ih => intro S i1 i2 i3 i4 h; exact sb7_tenderest_L24 hX hM hR hV  ih h
set_option maxRecDepth 100000 in
theorem c7_tenderest {l : Launch} {K : xK}  (hvc : xVC (xvl K)) (hV : (7, 0) ∈ xvl K) {S : xSt} {a1 : Int32} {out : xR} (h : f7_tenderest S  a1 = some out) : xMet l K yX7_tenderest cX7_tenderest 5 (some .int) 3 73 S [xr K 7 0, .int a1] out := by
  refine xMet_of RX7 (by decide +kernel) rfl hvc (Nat.le_of_ble_eq_true rfl) ?_
  intro X hX hM hR
  show xG K X S 0 [(0, xr K 7 0), (1, .int a1)] []
  unfold f7_tenderest at h
  refine g_iload_n hX dX7_tenderest_0 rfl 1 rfl ?_
  refine g_iconst (v := (0 : Int32)) hX dX7_tenderest_1 (by decide) ?_
  refine g_iconst (v := (1 : Int32)) hX dX7_tenderest_2 (by decide) ?_
  obtain ⟨S1, r2, hcS1, h⟩ := xbI_inv h
  refine g_callS hX hR (fun l => c7_in (l := l) hX.vc hcS1) xc7_71 rfl ⟨by decide, by decide⟩ rfl rfl (Nat.le_of_ble_eq_true rfl) dX7_tenderest_3 ?_
  refine g_if_ne hX 12 dX7_tenderest_6 (by decide) (fun hc => ?_) (fun hc => ?_)
  · have h := xif_f hc h
    refine g_aload_n hX dX7_tenderest_12 rfl 0 rfl ?_
    obtain ⟨S3, hcS3, h⟩ := xbV_inv h
    refine g_callV hX hR hV (fun l => c7_writeNow (l := l) hX.vc hV hcS3) xc7_116 rfl ⟨by decide, by decide⟩ rfl rfl (Nat.le_of_ble_eq_true rfl) dX7_tenderest_13 ?_
    refine g_bipush (v := (-6 : Int32)) hX dX7_tenderest_16 (by decide) ?_
    refine g_istore_n (lv2 := [(2, .int (-6 : Int32)), (0, xr K 7 0), (1, .int a1)]) hX dX7_tenderest_18 rfl (by decide) rfl ?_
    refine g_iconst (v := (0 : Int32)) hX dX7_tenderest_19 (by decide) ?_
    refine g_istore_n (lv2 := [(3, .int (0 : Int32)), (2, .int (-6 : Int32)), (0, xr K 7 0), (1, .int a1)]) hX dX7_tenderest_20 rfl (by decide) rfl ?_
    refine g_iconst (v := (0 : Int32)) hX dX7_tenderest_21 (by decide) ?_
    refine g_istore (lv2 := [(4, .int (0 : Int32)), (3, .int (0 : Int32)), (2, .int (-6 : Int32)), (0, xr K 7 0), (1, .int a1)]) hX dX7_tenderest_22 (by decide) rfl ?_
    exact g_sub [3, 4, 2, 1, 0] (by rfl) (sf7_tenderest_L24 hX hM hR hV _ _ _ _ _ _ h)
  · have h := xif_t hc h
    refine g_bipush (v := (-2 : Int32)) hX dX7_tenderest_9 (by decide) ?_
    exact g_iret hX hM (Option.some.inj h) dX7_tenderest_11
set_option maxRecDepth 100000 in
theorem sf7_cheapest_J113 {K : xK} {X : xX} {out : xR}  (hX : xOK K X RX7 cX7_cheapest 7) (hM : xM K X out (some .int)) (hR : xRm X 3 73) (hV : (7, 0) ∈ xvl K)  {S : xSt} {i1 : Int32} {i2 : Int32} {i3 : Int32} {i4 : Int32} {i5 : Int32} (h : f7_cheapest_J113   S i1 i2 i3 i4 i5 = some out) : xG K X S 113 [(0, xr K 7 0), (1, .int i1), (2, .int i2), (3, .int i3), (4, .int i4), (5, .int i5)] [] := by
  unfold f7_cheapest_J113 at h
  refine g_aload_n hX dX7_cheapest_113 rfl 0 rfl ?_
  refine g_getR hX hV (xf7_7 _) dX7_cheapest_114 ?_
  refine g_iconst (v := (3 : Int32)) hX dX7_cheapest_117 (by decide) ?_
  refine g_dup2 hX dX7_cheapest_118 rfl rfl ?_
  obtain ⟨hbj1, h⟩ := xat_inv h
  refine g_iald (n := 560) hX (xvc_7_0 hX.vc hV) rfl hbj1 dX7_cheapest_119 ?_
  refine g_iconst (v := (1 : Int32)) hX dX7_cheapest_120 (by decide) ?_
  refine g_isub hX dX7_cheapest_121 ?_
  obtain ⟨hbj2, h⟩ := xat_inv h
  obtain ⟨S3, eS3, h⟩ := xlet_inv h
  refine g_iast (n := 560) hX (xvc_7_0 hX.vc hV) (fun _ => rfl) hbj2 dX7_cheapest_122 eS3 ?_
  refine g_aload_n hX dX7_cheapest_123 rfl 0 rfl ?_
  refine g_getR hX hV (xf7_7 _) dX7_cheapest_124 ?_
  refine g_iload_n hX dX7_cheapest_127 rfl 2 rfl ?_
  refine g_iload_n hX dX7_cheapest_128 rfl 3 rfl ?_
  obtain ⟨hbj4, h⟩ := xat_inv h
  obtain ⟨S5, eS5, h⟩ := xlet_inv h
  refine g_iast (n := 560) hX (xvc_7_0 hX.vc hV) (fun _ => rfl) hbj4 dX7_cheapest_129 eS5 ?_
  refine g_iload_n hX dX7_cheapest_130 rfl 1 rfl ?_
  refine g_if_ne hX 139 dX7_cheapest_131 (by decide) (fun hc => ?_) (fun hc => ?_)
  · have h := xif_f hc h
    refine g_iload hX dX7_cheapest_139 5 rfl ?_
    exact g_iret hX hM (Option.some.inj h) dX7_cheapest_141
  · have h := xif_t hc h
    refine g_iload hX dX7_cheapest_134 4 rfl ?_
    refine g_goto hX 141 dX7_cheapest_136 (by decide) ?_
    exact g_iret hX hM (Option.some.inj h) dX7_cheapest_141
set_option maxRecDepth 100000 in
theorem sf7_cheapest_J107 {K : xK} {X : xX} {out : xR}  (hX : xOK K X RX7 cX7_cheapest 7) (hM : xM K X out (some .int)) (hR : xRm X 3 73) (hV : (7, 0) ∈ xvl K) {k64 : xSt → Int32 → Int32 → Int32 → Int32 → Int32 → Int32 → Option xR} (hk64 : ∀ (S : xSt) (i1 : Int32) (i2 : Int32) (i3 : Int32) (i4 : Int32) (i5 : Int32) (i6 : Int32), k64 S i1 i2 i3 i4 i5 i6 = some out → xG K X S 64 [(0, xr K 7 0), (1, .int i1), (2, .int i2), (3, .int i3), (4, .int i4), (5, .int i5), (6, .int i6)] []) {S : xSt} {i1 : Int32} {i2 : Int32} {i3 : Int32} {i4 : Int32} {i5 : Int32} {i6 : Int32} (h : f7_cheapest_J107  k64 S i1 i2 i3 i4 i5 i6 = some out) : xG K X S 107 [(0, xr K 7 0), (1, .int i1), (2, .int i2), (3, .int i3), (4, .int i4), (5, .int i5), (6, .int i6)] [] := by
  unfold f7_cheapest_J107 at h
  refine g_iinc (v := (i6 + (1 : Int32))) (lv2 := [(6, .int (i6 + (1 : Int32))), (0, xr K 7 0), (1, .int i1), (2, .int i2), (3, .int i3), (4, .int i4), (5, .int i5)]) hX dX7_cheapest_107 6 rfl rfl (by decide) rfl ?_
  refine g_goto hX 64 dX7_cheapest_110 (by decide) ?_
  exact g_sub [1, 2, 3, 4, 5, 6, 0] (by rfl) (hk64 _ _ _ _ _ _ _ h)
set_option maxRecDepth 100000 in
theorem sf7_cheapest_J97 {K : xK} {X : xX} {out : xR}  (hX : xOK K X RX7 cX7_cheapest 7) (hM : xM K X out (some .int)) (hR : xRm X 3 73) (hV : (7, 0) ∈ xvl K) {k64 : xSt → Int32 → Int32 → Int32 → Int32 → Int32 → Int32 → Option xR} (hk64 : ∀ (S : xSt) (i1 : Int32) (i2 : Int32) (i3 : Int32) (i4 : Int32) (i5 : Int32) (i6 : Int32), k64 S i1 i2 i3 i4 i5 i6 = some out → xG K X S 64 [(0, xr K 7 0), (1, .int i1), (2, .int i2), (3, .int i3), (4, .int i4), (5, .int i5), (6, .int i6)] []) {S : xSt} {i1 : Int32} {i2 : Int32} {i3 : Int32} {i6 : Int32} (h : f7_cheapest_J97  k64 S i1 i2 i3 i6 = some out) : xG K X S 97 [(0, xr K 7 0), (1, .int i1), (2, .int i2), (3, .int i3), (6, .int i6)] [] := by
  unfold f7_cheapest_J97 at h
  refine g_iload hX dX7_cheapest_97 4 rfl ?_
  refine g_istore (lv2 := [(4, .int i6), (0, xr K 7 0), (1, .int i1), (2, .int i2), (3, .int i3), (6, .int i6)]) hX dX7_cheapest_99 (by decide) rfl ?_
  refine g_aload_n hX dX7_cheapest_101 rfl 1 rfl ?_
  obtain ⟨S1, r2, hcS1, h⟩ := xbI_inv h
  refine g_callV hX hR hV (fun l => c7_bits (l := l) hX.vc hV hcS1) xc7_134 rfl ⟨by decide, by decide⟩ rfl rfl (Nat.le_of_ble_eq_true rfl) dX7_cheapest_102 ?_
  refine g_istore (lv2 := [(5, .int r2), (4, .int i6), (0, xr K 7 0), (1, .int i1), (2, .int i2), (3, .int i3), (6, .int i6)]) hX dX7_cheapest_105 (by decide) rfl ?_
  exact g_sub [2, 3, 4, 5, 1, 0, 6] (by rfl) (sf7_cheapest_J107 hX hM hR hV hk64 h)
set_option maxRecDepth 100000 in
theorem sb7_cheapest_L64 {K : xK} {X : xX} {out : xR}  (hX : xOK K X RX7 cX7_cheapest 7) (hM : xM K X out (some .int)) (hR : xRm X 3 73) (hV : (7, 0) ∈ xvl K)  {k64 : xSt → Int32 → Int32 → Int32 → Int32 → Int32 → Int32 → Option xR} (hk64 : ∀ (S : xSt) (i1 : Int32) (i2 : Int32) (i3 : Int32) (i4 : Int32) (i5 : Int32) (i6 : Int32), k64 S i1 i2 i3 i4 i5 i6 = some out → xG K X S 64 [(0, xr K 7 0), (1, .int i1), (2, .int i2), (3, .int i3), (4, .int i4), (5, .int i5), (6, .int i6)] []) {S : xSt} {i1 : Int32} {i2 : Int32} {i3 : Int32} {i4 : Int32} {i5 : Int32} {i6 : Int32} (h : b7_cheapest_L64   k64 S i1 i2 i3 i4 i5 i6 = some out) : xG K X S 64 [(0, xr K 7 0), (1, .int i1), (2, .int i2), (3, .int i3), (4, .int i4), (5, .int i5), (6, .int i6)] [] := by
  unfold b7_cheapest_L64 at h
  refine g_iload hX dX7_cheapest_64 6 rfl ?_
  refine g_bipush (v := (8 : Int32)) hX dX7_cheapest_66 (by decide) ?_
  refine g_icmp_ge hX 113 dX7_cheapest_68 (by decide) (fun hc => ?_) (fun hc => ?_)
  · have h := xif_t hc h
    exact g_sub [0, 1, 2, 3, 4, 5] (by rfl) (sf7_cheapest_J113 hX hM hR hV h)
  · have h := xif_f hc h
    refine g_aload_n hX dX7_cheapest_71 rfl 0 rfl ?_
    refine g_getR hX hV (xf7_7 _) dX7_cheapest_72 ?_
    refine g_iload_n hX dX7_cheapest_75 rfl 2 rfl ?_
    refine g_iload hX dX7_cheapest_76 6 rfl ?_
    obtain ⟨hbj1, h⟩ := xat_inv h
    obtain ⟨S2, eS2, h⟩ := xlet_inv h
    refine g_iast (n := 560) hX (xvc_7_0 hX.vc hV) (fun _ => rfl) hbj1 dX7_cheapest_78 eS2 ?_
    refine g_aload_n hX dX7_cheapest_79 rfl 0 rfl ?_
    obtain ⟨S3, hcS3, h⟩ := xbV_inv h
    refine g_callV hX hR hV (fun l => c7_writeNow (l := l) hX.vc hV hcS3) xc7_116 rfl ⟨by decide, by decide⟩ rfl rfl (Nat.le_of_ble_eq_true rfl) dX7_cheapest_80 ?_
    refine g_iload hX dX7_cheapest_83 4 rfl ?_
    refine g_if_lt hX 97 dX7_cheapest_85 (by decide) (fun hc => ?_) (fun hc => ?_)
    · have h := xif_t hc h
      exact g_sub [0, 1, 2, 3, 6] (by rfl) (sf7_cheapest_J97 hX hM hR hV hk64 h)
    · have h := xif_f hc h
      refine g_aload_n hX dX7_cheapest_88 rfl 0 rfl ?_
      obtain ⟨S4, r5, hcS4, h⟩ := xbI_inv h
      refine g_callV hX hR hV (fun l => c7_bits (l := l) hX.vc hV hcS4) xc7_134 rfl ⟨by decide, by decide⟩ rfl rfl (Nat.le_of_ble_eq_true rfl) dX7_cheapest_89 ?_
      refine g_iload hX dX7_cheapest_92 5 rfl ?_
      refine g_icmp_ge hX 107 dX7_cheapest_94 (by decide) (fun hc => ?_) (fun hc => ?_)
      · have h := xif_t hc h
        exact sf7_cheapest_J107 hX hM hR hV hk64 h
      · have h := xif_f hc h
        exact g_sub [0, 1, 2, 3, 6] (by rfl) (sf7_cheapest_J97 hX hM hR hV hk64 h)
theorem sf7_cheapest_L64 {K : xK} {X : xX} {out : xR}  (hX : xOK K X RX7 cX7_cheapest 7) (hM : xM K X out (some .int)) (hR : xRm X 3 73) (hV : (7, 0) ∈ xvl K)  : ∀ (n : Nat) (S : xSt) (i1 : Int32) (i2 : Int32) (i3 : Int32) (i4 : Int32) (i5 : Int32) (i6 : Int32) (h : f7_cheapest_L64   n S i1 i2 i3 i4 i5 i6 = some out), xG K X S 64 [(0, xr K 7 0), (1, .int i1), (2, .int i2), (3, .int i3), (4, .int i4), (5, .int i5), (6, .int i6)] [] := by
  intro n
  induction n with
  | zero => intro S i1 i2 i3 i4 i5 i6 h; cases h
  | succ n ih => intro S i1 i2 i3 i4 i5 i6 h; exact sb7_cheapest_L64 hX hM hR hV  ih h
set_option maxRecDepth 100000 in
theorem c7_cheapest {l : Launch} {K : xK}  (hvc : xVC (xvl K)) (hV : (7, 0) ∈ xvl K) {S : xSt} {a1 : Int32} {out : xR} (h : f7_cheapest S  a1 = some out) : xMet l K yX7_cheapest cX7_cheapest 7 (some .int) 3 73 S [xr K 7 0, .int a1] out := by
  refine xMet_of RX7 (by decide +kernel) rfl hvc (Nat.le_of_ble_eq_true rfl) ?_
  intro X hX hM hR
  show xG K X S 0 [(0, xr K 7 0), (1, .int a1)] []
  unfold f7_cheapest at h
  refine g_iload_n hX dX7_cheapest_0 rfl 1 rfl ?_
  refine g_iconst (v := (0 : Int32)) hX dX7_cheapest_1 (by decide) ?_
  refine g_iconst (v := (1 : Int32)) hX dX7_cheapest_2 (by decide) ?_
  obtain ⟨S1, r2, hcS1, h⟩ := xbI_inv h
  refine g_callS hX hR (fun l => c7_in (l := l) hX.vc hcS1) xc7_71 rfl ⟨by decide, by decide⟩ rfl rfl (Nat.le_of_ble_eq_true rfl) dX7_cheapest_3 ?_
  refine g_if_ne hX 12 dX7_cheapest_6 (by decide) (fun hc => ?_) (fun hc => ?_)
  · have h := xif_f hc h
    refine g_aload_n hX dX7_cheapest_12 rfl 0 rfl ?_
    refine g_getR hX hV (xf7_7 _) dX7_cheapest_13 ?_
    refine g_iconst (v := (3 : Int32)) hX dX7_cheapest_16 (by decide) ?_
    obtain ⟨hbj3, h⟩ := xat_inv h
    refine g_iald (n := 560) hX (xvc_7_0 hX.vc hV) rfl hbj3 dX7_cheapest_17 ?_
    refine g_sipush (v := (240 : Int32)) hX dX7_cheapest_18 (by decide) ?_
    refine g_icmp_ne hX 27 dX7_cheapest_21 (by decide) (fun hc => ?_) (fun hc => ?_)
    · have h := xif_f hc h
      refine g_bipush (v := (10 : Int32)) hX dX7_cheapest_27 (by decide) ?_
      refine g_aload_n hX dX7_cheapest_29 rfl 0 rfl ?_
      refine g_getR hX hV (xf7_7 _) dX7_cheapest_30 ?_
      refine g_iconst (v := (3 : Int32)) hX dX7_cheapest_33 (by decide) ?_
      obtain ⟨hbj4, h⟩ := xat_inv h
      refine g_iald (n := 560) hX (xvc_7_0 hX.vc hV) rfl hbj4 dX7_cheapest_34 ?_
      refine g_iadd hX dX7_cheapest_35 ?_
      refine g_istore_n (lv2 := [(2, .int ((10 : Int32) + (S1 33 0 ((3 : Int32)).toNatClampNeg))), (0, xr K 7 0), (1, .int a1)]) hX dX7_cheapest_36 rfl (by decide) rfl ?_
      refine g_aload_n hX dX7_cheapest_37 rfl 1 rfl ?_
      refine g_getR hX hV (xf7_7 _) dX7_cheapest_38 ?_
      refine g_iload_n hX dX7_cheapest_41 rfl 0 rfl ?_
      obtain ⟨hbj5, h⟩ := xat_inv h
      refine g_iald (n := 560) hX (xvc_7_0 hX.vc hV) rfl hbj5 dX7_cheapest_42 ?_
      refine g_istore_n (lv2 := [(3, .int (S1 33 0 (((10 : Int32) + (S1 33 0 ((3 : Int32)).toNatClampNeg))).toNatClampNeg)), (2, .int ((10 : Int32) + (S1 33 0 ((3 : Int32)).toNatClampNeg))), (0, xr K 7 0), (1, .int a1)]) hX dX7_cheapest_43 rfl (by decide) rfl ?_
      refine g_bipush (v := (-6 : Int32)) hX dX7_cheapest_44 (by decide) ?_
      refine g_istore (lv2 := [(4, .int (-6 : Int32)), (3, .int (S1 33 0 (((10 : Int32) + (S1 33 0 ((3 : Int32)).toNatClampNeg))).toNatClampNeg)), (2, .int ((10 : Int32) + (S1 33 0 ((3 : Int32)).toNatClampNeg))), (0, xr K 7 0), (1, .int a1)]) hX dX7_cheapest_46 (by decide) rfl ?_
      refine g_iconst (v := (0 : Int32)) hX dX7_cheapest_48 (by decide) ?_
      refine g_istore (lv2 := [(5, .int (0 : Int32)), (4, .int (-6 : Int32)), (3, .int (S1 33 0 (((10 : Int32) + (S1 33 0 ((3 : Int32)).toNatClampNeg))).toNatClampNeg)), (2, .int ((10 : Int32) + (S1 33 0 ((3 : Int32)).toNatClampNeg))), (0, xr K 7 0), (1, .int a1)]) hX dX7_cheapest_49 (by decide) rfl ?_
      refine g_aload_n hX dX7_cheapest_51 rfl 4 rfl ?_
      refine g_getR hX hV (xf7_7 _) dX7_cheapest_52 ?_
      refine g_iconst (v := (3 : Int32)) hX dX7_cheapest_55 (by decide) ?_
      refine g_dup2 hX dX7_cheapest_56 rfl rfl ?_
      obtain ⟨hbj6, h⟩ := xat_inv h
      refine g_iald (n := 560) hX (xvc_7_0 hX.vc hV) rfl hbj6 dX7_cheapest_57 ?_
      refine g_iconst (v := (1 : Int32)) hX dX7_cheapest_58 (by decide) ?_
      refine g_iadd hX dX7_cheapest_59 ?_
      obtain ⟨hbj7, h⟩ := xat_inv h
      obtain ⟨S8, eS8, h⟩ := xlet_inv h
      refine g_iast (n := 560) hX (xvc_7_0 hX.vc hV) (fun _ => rfl) hbj7 dX7_cheapest_60 eS8 ?_
      refine g_iconst (v := (0 : Int32)) hX dX7_cheapest_61 (by decide) ?_
      refine g_istore (lv2 := [(6, .int (0 : Int32)), (5, .int (0 : Int32)), (4, .int (-6 : Int32)), (3, .int (S1 33 0 (((10 : Int32) + (S1 33 0 ((3 : Int32)).toNatClampNeg))).toNatClampNeg)), (2, .int ((10 : Int32) + (S1 33 0 ((3 : Int32)).toNatClampNeg))), (0, xr K 7 0), (1, .int a1)]) hX dX7_cheapest_62 (by decide) rfl ?_
      exact g_sub [5, 6, 4, 3, 2, 1, 0] (by rfl) (sf7_cheapest_L64 hX hM hR hV _ _ _ _ _ _ _ _ h)
    · have h := xif_t hc h
      refine g_bipush (v := (-5 : Int32)) hX dX7_cheapest_24 (by decide) ?_
      exact g_iret hX hM (Option.some.inj h) dX7_cheapest_26
  · have h := xif_t hc h
    refine g_bipush (v := (-2 : Int32)) hX dX7_cheapest_9 (by decide) ?_
    exact g_iret hX hM (Option.some.inj h) dX7_cheapest_11
set_option maxRecDepth 100000 in
theorem sf7_undo_J56 {K : xK} {X : xX} {out : xR}  (hX : xOK K X RX7 cX7_undo 2) (hM : xM K X out (some .int)) (hR : xRm X 0 0) (hV : (7, 0) ∈ xvl K)  {S : xSt}  (h : f7_undo_J56   S  = some out) : xG K X S 56 [(0, xr K 7 0)] [] := by
  unfold f7_undo_J56 at h
  refine g_aload_n hX dX7_undo_56 rfl 0 rfl ?_
  refine g_getI hX hV xf7_67 dX7_undo_57 ?_
  exact g_iret hX hM (Option.some.inj h) dX7_undo_60
set_option maxRecDepth 100000 in
theorem sb7_undo_L22 {K : xK} {X : xX} {out : xR}  (hX : xOK K X RX7 cX7_undo 2) (hM : xM K X out (some .int)) (hR : xRm X 0 0) (hV : (7, 0) ∈ xvl K)  {k22 : xSt → Int32 → Option xR} (hk22 : ∀ (S : xSt) (i1 : Int32), k22 S i1 = some out → xG K X S 22 [(0, xr K 7 0), (1, .int i1)] []) {S : xSt} {i1 : Int32} (h : b7_undo_L22   k22 S i1 = some out) : xG K X S 22 [(0, xr K 7 0), (1, .int i1)] [] := by
  unfold b7_undo_L22 at h
  refine g_iload_n hX dX7_undo_22 rfl 1 rfl ?_
  refine g_sipush (v := (560 : Int32)) hX dX7_undo_23 (by decide) ?_
  refine g_icmp_ge hX 56 dX7_undo_26 (by decide) (fun hc => ?_) (fun hc => ?_)
  · have h := xif_t hc h
    exact g_sub [0] (by rfl) (sf7_undo_J56 hX hM hR hV h)
  · have h := xif_f hc h
    refine g_aload_n hX dX7_undo_29 rfl 0 rfl ?_
    refine g_getR hX hV (xf7_7 _) dX7_undo_30 ?_
    refine g_iload_n hX dX7_undo_33 rfl 1 rfl ?_
    refine g_aload_n hX dX7_undo_34 rfl 0 rfl ?_
    refine g_getR hX hV (xf7_13 _) dX7_undo_35 ?_
    refine g_aload_n hX dX7_undo_38 rfl 0 rfl ?_
    refine g_getI hX hV xf7_67 dX7_undo_39 ?_
    refine g_sipush (v := (560 : Int32)) hX dX7_undo_42 (by decide) ?_
    refine g_imul hX dX7_undo_45 ?_
    refine g_iload_n hX dX7_undo_46 rfl 1 rfl ?_
    refine g_iadd hX dX7_undo_47 ?_
    obtain ⟨hbj1, h⟩ := xat_inv h
    refine g_iald (n := 3360) hX (xvc_7_1 hX.vc hV) rfl hbj1 dX7_undo_48 ?_
    obtain ⟨hbj2, h⟩ := xat_inv h
    obtain ⟨S3, eS3, h⟩ := xlet_inv h
    refine g_iast (n := 560) hX (xvc_7_0 hX.vc hV) (fun _ => rfl) hbj2 dX7_undo_49 eS3 ?_
    refine g_iinc (v := (i1 + (1 : Int32))) (lv2 := [(1, .int (i1 + (1 : Int32))), (0, xr K 7 0)]) hX dX7_undo_50 1 rfl rfl (by decide) rfl ?_
    refine g_goto hX 22 dX7_undo_53 (by decide) ?_
    exact g_sub [1, 0] (by rfl) (hk22 _ _ h)
theorem sf7_undo_L22 {K : xK} {X : xX} {out : xR}  (hX : xOK K X RX7 cX7_undo 2) (hM : xM K X out (some .int)) (hR : xRm X 0 0) (hV : (7, 0) ∈ xvl K)  : ∀ (n : Nat) (S : xSt) (i1 : Int32) (h : f7_undo_L22   n S i1 = some out), xG K X S 22 [(0, xr K 7 0), (1, .int i1)] [] := by
  intro n
  induction n with
  | zero => intro S i1 h; cases h
  | succ n ih => intro S i1 h; exact sb7_undo_L22 hX hM hR hV  ih h
set_option maxRecDepth 100000 in
theorem c7_undo {l : Launch} {K : xK}  (hvc : xVC (xvl K)) (hV : (7, 0) ∈ xvl K) {S : xSt}  {out : xR} (h : f7_undo S   = some out) : xMet l K yX7_undo cX7_undo 2 (some .int) 0 0 S [xr K 7 0] out := by
  refine xMet_of RX7 (by decide +kernel) rfl hvc (Nat.le_of_ble_eq_true rfl) ?_
  intro X hX hM hR
  show xG K X S 0 [(0, xr K 7 0)] []
  unfold f7_undo at h
  refine g_aload_n hX dX7_undo_0 rfl 0 rfl ?_
  refine g_getI hX hV xf7_67 dX7_undo_1 ?_
  refine g_if_ne hX 10 dX7_undo_4 (by decide) (fun hc => ?_) (fun hc => ?_)
  · have h := xif_f hc h
    refine g_aload_n hX dX7_undo_10 rfl 0 rfl ?_
    refine g_dup hX dX7_undo_11 rfl ?_
    refine g_getI hX hV xf7_67 dX7_undo_12 ?_
    refine g_iconst (v := (1 : Int32)) hX dX7_undo_15 (by decide) ?_
    refine g_isub hX dX7_undo_16 ?_
    obtain ⟨S1, eS1, h⟩ := xlet_inv h
    refine g_putI hX hV xf7_67 dX7_undo_17 eS1 ?_
    refine g_iconst (v := (0 : Int32)) hX dX7_undo_20 (by decide) ?_
    refine g_istore_n (lv2 := [(1, .int (0 : Int32)), (0, xr K 7 0)]) hX dX7_undo_21 rfl (by decide) rfl ?_
    exact g_sub [1, 0] (by rfl) (sf7_undo_L22 hX hM hR hV _ _ _ h)
  · have h := xif_t hc h
    refine g_bipush (v := (-5 : Int32)) hX dX7_undo_7 (by decide) ?_
    exact g_iret hX hM (Option.some.inj h) dX7_undo_9
set_option maxRecDepth 100000 in
theorem sf7_save_J45 {K : xK} {X : xX} {out : xR}  (hX : xOK K X RX7 cX7_save 3) (hM : xM K X out (some .int)) (hR : xRm X 1 22) (hV : (7, 0) ∈ xvl K)  {S : xSt} {i1 : Int32} (h : f7_save_J45   S i1 = some out) : xG K X S 45 [(0, xr K 7 0), (1, .int i1)] [] := by
  unfold f7_save_J45 at h
  refine g_aload_n hX dX7_save_45 rfl 0 rfl ?_
  refine g_getR hX hV (xf7_19 _) dX7_save_46 ?_
  refine g_iload_n hX dX7_save_49 rfl 1 rfl ?_
  refine g_iconst (v := (1 : Int32)) hX dX7_save_50 (by decide) ?_
  obtain ⟨hbj1, h⟩ := xat_inv h
  obtain ⟨S2, eS2, h⟩ := xlet_inv h
  refine g_zast (n := 2) hX (xvc_7_4 hX.vc hV) (fun _ => rfl) hbj1 dX7_save_51 eS2 ?_
  refine g_aload_n hX dX7_save_52 rfl 0 rfl ?_
  refine g_getR hX hV (xf7_7 _) dX7_save_53 ?_
  refine g_iconst (v := (3 : Int32)) hX dX7_save_56 (by decide) ?_
  obtain ⟨hbj3, h⟩ := xat_inv h
  refine g_iald (n := 560) hX (xvc_7_0 hX.vc hV) rfl hbj3 dX7_save_57 ?_
  exact g_iret hX hM (Option.some.inj h) dX7_save_58
set_option maxRecDepth 100000 in
theorem sb7_save_L14 {K : xK} {X : xX} {out : xR}  (hX : xOK K X RX7 cX7_save 3) (hM : xM K X out (some .int)) (hR : xRm X 1 22) (hV : (7, 0) ∈ xvl K)  {k14 : xSt → Int32 → Int32 → Option xR} (hk14 : ∀ (S : xSt) (i1 : Int32) (i2 : Int32), k14 S i1 i2 = some out → xG K X S 14 [(0, xr K 7 0), (1, .int i1), (2, .int i2)] []) {S : xSt} {i1 : Int32} {i2 : Int32} (h : b7_save_L14   k14 S i1 i2 = some out) : xG K X S 14 [(0, xr K 7 0), (1, .int i1), (2, .int i2)] [] := by
  unfold b7_save_L14 at h
  refine g_iload_n hX dX7_save_14 rfl 2 rfl ?_
  refine g_sipush (v := (560 : Int32)) hX dX7_save_15 (by decide) ?_
  refine g_icmp_ge hX 45 dX7_save_18 (by decide) (fun hc => ?_) (fun hc => ?_)
  · have h := xif_t hc h
    exact g_sub [0, 1] (by rfl) (sf7_save_J45 hX hM hR hV h)
  · have h := xif_f hc h
    refine g_aload_n hX dX7_save_21 rfl 0 rfl ?_
    refine g_getR hX hV (xf7_16 _) dX7_save_22 ?_
    refine g_iload_n hX dX7_save_25 rfl 1 rfl ?_
    refine g_sipush (v := (560 : Int32)) hX dX7_save_26 (by decide) ?_
    refine g_imul hX dX7_save_29 ?_
    refine g_iload_n hX dX7_save_30 rfl 2 rfl ?_
    refine g_iadd hX dX7_save_31 ?_
    refine g_aload_n hX dX7_save_32 rfl 0 rfl ?_
    refine g_getR hX hV (xf7_7 _) dX7_save_33 ?_
    refine g_iload_n hX dX7_save_36 rfl 2 rfl ?_
    obtain ⟨hbj1, h⟩ := xat_inv h
    refine g_iald (n := 560) hX (xvc_7_0 hX.vc hV) rfl hbj1 dX7_save_37 ?_
    obtain ⟨hbj2, h⟩ := xat_inv h
    obtain ⟨S3, eS3, h⟩ := xlet_inv h
    refine g_iast (n := 1120) hX (xvc_7_3 hX.vc hV) (fun _ => rfl) hbj2 dX7_save_38 eS3 ?_
    refine g_iinc (v := (i2 + (1 : Int32))) (lv2 := [(2, .int (i2 + (1 : Int32))), (0, xr K 7 0), (1, .int i1)]) hX dX7_save_39 2 rfl rfl (by decide) rfl ?_
    refine g_goto hX 14 dX7_save_42 (by decide) ?_
    exact g_sub [1, 2, 0] (by rfl) (hk14 _ _ _ h)
theorem sf7_save_L14 {K : xK} {X : xX} {out : xR}  (hX : xOK K X RX7 cX7_save 3) (hM : xM K X out (some .int)) (hR : xRm X 1 22) (hV : (7, 0) ∈ xvl K)  : ∀ (n : Nat) (S : xSt) (i1 : Int32) (i2 : Int32) (h : f7_save_L14   n S i1 i2 = some out), xG K X S 14 [(0, xr K 7 0), (1, .int i1), (2, .int i2)] [] := by
  intro n
  induction n with
  | zero => intro S i1 i2 h; cases h
  | succ n ih => intro S i1 i2 h; exact sb7_save_L14 hX hM hR hV  ih h
set_option maxRecDepth 100000 in
theorem c7_save {l : Launch} {K : xK}  (hvc : xVC (xvl K)) (hV : (7, 0) ∈ xvl K) {S : xSt} {a1 : Int32} {out : xR} (h : f7_save S  a1 = some out) : xMet l K yX7_save cX7_save 3 (some .int) 1 22 S [xr K 7 0, .int a1] out := by
  refine xMet_of RX7 (by decide +kernel) rfl hvc (Nat.le_of_ble_eq_true rfl) ?_
  intro X hX hM hR
  show xG K X S 0 [(0, xr K 7 0), (1, .int a1)] []
  unfold f7_save at h
  refine g_iload_n hX dX7_save_0 rfl 1 rfl ?_
  refine g_iconst (v := (0 : Int32)) hX dX7_save_1 (by decide) ?_
  refine g_iconst (v := (1 : Int32)) hX dX7_save_2 (by decide) ?_
  obtain ⟨S1, r2, hcS1, h⟩ := xbI_inv h
  refine g_callS hX hR (fun l => c7_in (l := l) hX.vc hcS1) xc7_71 rfl ⟨by decide, by decide⟩ rfl rfl (Nat.le_of_ble_eq_true rfl) dX7_save_3 ?_
  refine g_if_ne hX 12 dX7_save_6 (by decide) (fun hc => ?_) (fun hc => ?_)
  · have h := xif_f hc h
    refine g_iconst (v := (0 : Int32)) hX dX7_save_12 (by decide) ?_
    refine g_istore_n (lv2 := [(2, .int (0 : Int32)), (0, xr K 7 0), (1, .int a1)]) hX dX7_save_13 rfl (by decide) rfl ?_
    exact g_sub [1, 2, 0] (by rfl) (sf7_save_L14 hX hM hR hV _ _ _ _ h)
  · have h := xif_t hc h
    refine g_bipush (v := (-2 : Int32)) hX dX7_save_9 (by decide) ?_
    exact g_iret hX hM (Option.some.inj h) dX7_save_11
set_option maxRecDepth 100000 in
theorem sf7_restore_J61 {K : xK} {X : xX} {out : xR}  (hX : xOK K X RX7 cX7_restore 3) (hM : xM K X out (some .int)) (hR : xRm X 1 22) (hV : (7, 0) ∈ xvl K)  {S : xSt}  (h : f7_restore_J61   S  = some out) : xG K X S 61 [(0, xr K 7 0)] [] := by
  unfold f7_restore_J61 at h
  refine g_aload_n hX dX7_restore_61 rfl 0 rfl ?_
  refine g_getR hX hV (xf7_7 _) dX7_restore_62 ?_
  refine g_iconst (v := (3 : Int32)) hX dX7_restore_65 (by decide) ?_
  obtain ⟨hbj1, h⟩ := xat_inv h
  refine g_iald (n := 560) hX (xvc_7_0 hX.vc hV) rfl hbj1 dX7_restore_66 ?_
  exact g_iret hX hM (Option.some.inj h) dX7_restore_67
set_option maxRecDepth 100000 in
theorem sb7_restore_L30 {K : xK} {X : xX} {out : xR}  (hX : xOK K X RX7 cX7_restore 3) (hM : xM K X out (some .int)) (hR : xRm X 1 22) (hV : (7, 0) ∈ xvl K)  {k30 : xSt → Int32 → Int32 → Option xR} (hk30 : ∀ (S : xSt) (i1 : Int32) (i2 : Int32), k30 S i1 i2 = some out → xG K X S 30 [(0, xr K 7 0), (1, .int i1), (2, .int i2)] []) {S : xSt} {i1 : Int32} {i2 : Int32} (h : b7_restore_L30   k30 S i1 i2 = some out) : xG K X S 30 [(0, xr K 7 0), (1, .int i1), (2, .int i2)] [] := by
  unfold b7_restore_L30 at h
  refine g_iload_n hX dX7_restore_30 rfl 2 rfl ?_
  refine g_sipush (v := (560 : Int32)) hX dX7_restore_31 (by decide) ?_
  refine g_icmp_ge hX 61 dX7_restore_34 (by decide) (fun hc => ?_) (fun hc => ?_)
  · have h := xif_t hc h
    exact g_sub [0] (by rfl) (sf7_restore_J61 hX hM hR hV h)
  · have h := xif_f hc h
    refine g_aload_n hX dX7_restore_37 rfl 0 rfl ?_
    refine g_getR hX hV (xf7_7 _) dX7_restore_38 ?_
    refine g_iload_n hX dX7_restore_41 rfl 2 rfl ?_
    refine g_aload_n hX dX7_restore_42 rfl 0 rfl ?_
    refine g_getR hX hV (xf7_16 _) dX7_restore_43 ?_
    refine g_iload_n hX dX7_restore_46 rfl 1 rfl ?_
    refine g_sipush (v := (560 : Int32)) hX dX7_restore_47 (by decide) ?_
    refine g_imul hX dX7_restore_50 ?_
    refine g_iload_n hX dX7_restore_51 rfl 2 rfl ?_
    refine g_iadd hX dX7_restore_52 ?_
    obtain ⟨hbj1, h⟩ := xat_inv h
    refine g_iald (n := 1120) hX (xvc_7_3 hX.vc hV) rfl hbj1 dX7_restore_53 ?_
    obtain ⟨hbj2, h⟩ := xat_inv h
    obtain ⟨S3, eS3, h⟩ := xlet_inv h
    refine g_iast (n := 560) hX (xvc_7_0 hX.vc hV) (fun _ => rfl) hbj2 dX7_restore_54 eS3 ?_
    refine g_iinc (v := (i2 + (1 : Int32))) (lv2 := [(2, .int (i2 + (1 : Int32))), (0, xr K 7 0), (1, .int i1)]) hX dX7_restore_55 2 rfl rfl (by decide) rfl ?_
    refine g_goto hX 30 dX7_restore_58 (by decide) ?_
    exact g_sub [1, 2, 0] (by rfl) (hk30 _ _ _ h)
theorem sf7_restore_L30 {K : xK} {X : xX} {out : xR}  (hX : xOK K X RX7 cX7_restore 3) (hM : xM K X out (some .int)) (hR : xRm X 1 22) (hV : (7, 0) ∈ xvl K)  : ∀ (n : Nat) (S : xSt) (i1 : Int32) (i2 : Int32) (h : f7_restore_L30   n S i1 i2 = some out), xG K X S 30 [(0, xr K 7 0), (1, .int i1), (2, .int i2)] [] := by
  intro n
  induction n with
  | zero => intro S i1 i2 h; cases h
  | succ n ih => intro S i1 i2 h; exact sb7_restore_L30 hX hM hR hV  ih h
set_option maxRecDepth 100000 in
theorem c7_restore {l : Launch} {K : xK}  (hvc : xVC (xvl K)) (hV : (7, 0) ∈ xvl K) {S : xSt} {a1 : Int32} {out : xR} (h : f7_restore S  a1 = some out) : xMet l K yX7_restore cX7_restore 3 (some .int) 1 22 S [xr K 7 0, .int a1] out := by
  refine xMet_of RX7 (by decide +kernel) rfl hvc (Nat.le_of_ble_eq_true rfl) ?_
  intro X hX hM hR
  show xG K X S 0 [(0, xr K 7 0), (1, .int a1)] []
  unfold f7_restore at h
  refine g_iload_n hX dX7_restore_0 rfl 1 rfl ?_
  refine g_iconst (v := (0 : Int32)) hX dX7_restore_1 (by decide) ?_
  refine g_iconst (v := (1 : Int32)) hX dX7_restore_2 (by decide) ?_
  obtain ⟨S1, r2, hcS1, h⟩ := xbI_inv h
  refine g_callS hX hR (fun l => c7_in (l := l) hX.vc hcS1) xc7_71 rfl ⟨by decide, by decide⟩ rfl rfl (Nat.le_of_ble_eq_true rfl) dX7_restore_3 ?_
  refine g_if_ne hX 12 dX7_restore_6 (by decide) (fun hc => ?_) (fun hc => ?_)
  · have h := xif_f hc h
    refine g_aload_n hX dX7_restore_12 rfl 0 rfl ?_
    refine g_getR hX hV (xf7_19 _) dX7_restore_13 ?_
    refine g_iload_n hX dX7_restore_16 rfl 1 rfl ?_
    obtain ⟨hbj3, h⟩ := xat_inv h
    refine g_zald (n := 2) hX (xvc_7_4 hX.vc hV) rfl hbj3 dX7_restore_17 ?_
    refine g_if_ne hX 24 dX7_restore_18 (by decide) (fun hc => ?_) (fun hc => ?_)
    · have h := xif_f hc h
      refine g_aload_n hX dX7_restore_24 rfl 0 rfl ?_
      obtain ⟨S4, hcS4, h⟩ := xbV_inv h
      refine g_callV hX hR hV (fun l => c7_record (l := l) hX.vc hV hcS4) xc7_79 rfl ⟨by decide, by decide⟩ rfl rfl (Nat.le_of_ble_eq_true rfl) dX7_restore_25 ?_
      refine g_iconst (v := (0 : Int32)) hX dX7_restore_28 (by decide) ?_
      refine g_istore_n (lv2 := [(2, .int (0 : Int32)), (0, xr K 7 0), (1, .int a1)]) hX dX7_restore_29 rfl (by decide) rfl ?_
      exact g_sub [1, 2, 0] (by rfl) (sf7_restore_L30 hX hM hR hV _ _ _ _ h)
    · have h := xif_t hc h
      refine g_bipush (v := (-5 : Int32)) hX dX7_restore_21 (by decide) ?_
      exact g_iret hX hM (Option.some.inj h) dX7_restore_23
  · have h := xif_t hc h
    refine g_bipush (v := (-2 : Int32)) hX dX7_restore_9 (by decide) ?_
    exact g_iret hX hM (Option.some.inj h) dX7_restore_11
