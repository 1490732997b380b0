set_option maxRecDepth 100000 in
theorem sfW_cell_J28 {K : xK} {X : xX} {out : xR}  {L : Nat} {xs : Nat → Int32} (hX : xOK K X RL cL_cell 3) (hM : xM K X out (some .int)) (hR : xRm X 0 0)  (hL : xsa K 4 = L) (hxs : xxs K = xs)  {S : xSt} {i2 : Int32} {k0 : Int32} (h : fW_cell_J28  L xs  S i2 k0 = some out) : xG K X S 28 [(2, .int i2)] [.int k0] := by
  unfold fW_cell_J28 at h
  refine g_iload_n hX dL_cell_28 rfl 0 rfl ?_
  obtain ⟨hn, h⟩ := xne_inv h
  refine g_irem hX dL_cell_29 hn ?_
  exact g_iret hX hM (Option.some.inj h) dL_cell_30
set_option maxRecDepth 100000 in
theorem cW_cell {l : Launch} {K : xK}  {L : Nat} {xs : Nat → Int32} (hvc : xVC (xvl K))  (hL : xsa K 4 = L) (hxs : xxs K = xs) {S : xSt} {a1 : Int32} {a2 : Int32} {out : xR} (h : fW_cell S  L xs a1 a2 = some out) : xMet l K yL_cell cL_cell 3 (some .int) 0 0 S [xrs K 3, .int a1, .int a2] out := by
  refine xMet_of RL (by decide +kernel) rfl hvc (Nat.le_of_ble_eq_true rfl) ?_
  intro X hX hM hR
  show xG K X S 0 [(0, xrs K 3), (1, .int a1), (2, .int a2)] []
  unfold fW_cell at h
  refine g_aloads_n hX dL_cell_0 rfl 0 rfl ?_
  refine g_slenx hX hL dL_cell_1 ?_
  refine g_if_ne hX 14 dL_cell_2 (by decide) (fun hc => ?_) (fun hc => ?_)
  · have h := xif_f hc h
    refine g_aloads_n hX dL_cell_14 rfl 0 rfl ?_
    refine g_iload_n hX dL_cell_15 rfl 1 rfl ?_
    refine g_aloads_n hX dL_cell_16 rfl 0 rfl ?_
    refine g_slenx hX hL dL_cell_17 ?_
    obtain ⟨hn, h⟩ := xne_inv h
    refine g_irem hX dL_cell_18 hn ?_
    obtain ⟨hbj1, h⟩ := xat_inv h
    refine g_ialdx hX hL hxs hbj1 dL_cell_19 ?_
    refine g_iload_n hX dL_cell_20 rfl 1 rfl ?_
    refine g_bipush (v := (7 : Int32)) hX dL_cell_21 (by decide) ?_
    obtain ⟨hn, h⟩ := xne_inv h
    refine g_irem hX dL_cell_23 hn ?_
    refine g_ishr hX dL_cell_24 ?_
    refine g_ldc (v := (4194303 : Int32)) hX dL_cell_25 xk9_7 ?_
    refine g_iand hX dL_cell_27 ?_
    exact g_sub [2] (by rfl) (sfW_cell_J28 hX hM hR hL hxs h)
  · have h := xif_t hc h
    refine g_iload_n hX dL_cell_5 rfl 1 rfl ?_
    refine g_bipush (v := (37 : Int32)) hX dL_cell_6 (by decide) ?_
    refine g_imul hX dL_cell_8 ?_
    refine g_iconst (v := (5 : Int32)) hX dL_cell_9 (by decide) ?_
    refine g_iadd hX dL_cell_10 ?_
    refine g_goto hX 28 dL_cell_11 (by decide) ?_
    exact g_sub [2] (by rfl) (sfW_cell_J28 hX hM hR hL hxs h)
set_option maxRecDepth 100000 in
theorem sbW_bits_L2 {K : xK} {X : xX} {out : xR}  (hX : xOK K X RL cL_bits 2) (hM : xM K X out (some .int)) (hR : xRm X 0 0)   {k2 : xSt → Int32 → Int32 → Option xR} (hk2 : ∀ (S : xSt) (i0 : Int32) (i1 : Int32), k2 S i0 i1 = some out → xG K X S 2 [(0, .int i0), (1, .int i1)] []) {S : xSt} {i0 : Int32} {i1 : Int32} (h : bW_bits_L2   k2 S i0 i1 = some out) : xG K X S 2 [(0, .int i0), (1, .int i1)] [] := by
  unfold bW_bits_L2 at h
  refine g_iload_n hX dL_bits_2 rfl 0 rfl ?_
  refine g_iconst (v := (1 : Int32)) hX dL_bits_3 (by decide) ?_
  refine g_isub hX dL_bits_4 ?_
  refine g_iconst (v := (1 : Int32)) hX dL_bits_5 (by decide) ?_
  refine g_iload_n hX dL_bits_6 rfl 1 rfl ?_
  refine g_ishl hX dL_bits_7 ?_
  refine g_icmp_lt hX 17 dL_bits_8 (by decide) (fun hc => ?_) (fun hc => ?_)
  · have h := xif_t hc h
    refine g_iload_n hX dL_bits_17 rfl 1 rfl ?_
    exact g_iret hX hM (Option.some.inj h) dL_bits_18
  · have h := xif_f hc h
    refine g_iinc (v := (i1 + (1 : Int32))) (lv2 := [(1, .int (i1 + (1 : Int32))), (0, .int i0)]) hX dL_bits_11 1 rfl rfl (by decide) rfl ?_
    refine g_goto hX 2 dL_bits_14 (by decide) ?_
    exact g_sub [1, 0] (by rfl) (hk2 _ _ _ h)
theorem sfW_bits_L2 {K : xK} {X : xX} {out : xR}  (hX : xOK K X RL cL_bits 2) (hM : xM K X out (some .int)) (hR : xRm X 0 0)   : ∀ (n : Nat) (S : xSt) (i0 : Int32) (i1 : Int32) (h : fW_bits_L2   n S i0 i1 = some out), xG K X S 2 [(0, .int i0), (1, .int i1)] [] := by
  intro n
  induction n with
  | zero => intro S i0 i1 h; cases h
  | succ n ih => intro S i0 i1 h; exact sbW_bits_L2 hX hM hR   ih h
set_option maxRecDepth 100000 in
theorem cW_bits {l : Launch} {K : xK}  (hvc : xVC (xvl K))  {S : xSt} {a0 : Int32} {out : xR} (h : fW_bits S  a0 = some out) : xMet l K yL_bits cL_bits 2 (some .int) 0 0 S [.int a0] out := by
  refine xMet_of RL (by decide +kernel) rfl hvc (Nat.le_of_ble_eq_true rfl) ?_
  intro X hX hM hR
  show xG K X S 0 [(0, .int a0)] []
  unfold fW_bits at h
  refine g_iconst (v := (4 : Int32)) hX dL_bits_0 (by decide) ?_
  refine g_istore_n (lv2 := [(1, .int (4 : Int32)), (0, .int a0)]) hX dL_bits_1 rfl (by decide) rfl ?_
  exact g_sub [1, 0] (by rfl) (sfW_bits_L2 hX hM hR _ _ _ _ h)
set_option maxRecDepth 100000 in
theorem sfW_isAlike_J67 {K : xK} {X : xX} {out : xR}  (hX : xOK K X RL cL_isAlike 6) (hM : xM K X out (some .boolean)) (hR : xRm X 2 43) (hV : (6, 0) ∈ xvl K) {k32 : xSt → Int32 → Int32 → Int32 → Int32 → Int32 → Option xR} (hk32 : ∀ (S : xSt) (i1 : Int32) (i2 : Int32) (i3 : Int32) (i4 : Int32) (i5 : Int32), k32 S i1 i2 i3 i4 i5 = some out → xG K X S 32 [(0, xr K 6 0), (1, .int i1), (2, .int i2), (3, .int i3), (4, .int i4), (5, .int i5)] []) {S : xSt} {i1 : Int32} {i2 : Int32} {i3 : Int32} {i5 : Int32} {k0 : Int32} (h : fW_isAlike_J67  k32 S i1 i2 i3 i5 k0 = some out) : xG K X S 67 [(0, xr K 6 0), (1, .int i1), (2, .int i2), (3, .int i3), (5, .int i5)] [.int k0] := by
  unfold fW_isAlike_J67 at h
  refine g_istore (lv2 := [(4, .int k0), (0, xr K 6 0), (1, .int i1), (2, .int i2), (3, .int i3), (5, .int i5)]) hX dL_isAlike_67 (by decide) rfl ?_
  refine g_iinc (v := (i5 + (1 : Int32))) (lv2 := [(5, .int (i5 + (1 : Int32))), (4, .int k0), (0, xr K 6 0), (1, .int i1), (2, .int i2), (3, .int i3)]) hX dL_isAlike_69 5 rfl rfl (by decide) rfl ?_
  refine g_goto hX 32 dL_isAlike_72 (by decide) ?_
  exact g_sub [2, 3, 4, 5, 1, 0] (by rfl) (hk32 _ _ _ _ _ _ h)
set_option maxRecDepth 100000 in
theorem sbW_isAlike_L32 {K : xK} {X : xX} {out : xR}  (hX : xOK K X RL cL_isAlike 6) (hM : xM K X out (some .boolean)) (hR : xRm X 2 43) (hV : (6, 0) ∈ xvl K)  {k32 : xSt → Int32 → Int32 → Int32 → Int32 → Int32 → Option xR} (hk32 : ∀ (S : xSt) (i1 : Int32) (i2 : Int32) (i3 : Int32) (i4 : Int32) (i5 : Int32), k32 S i1 i2 i3 i4 i5 = some out → xG K X S 32 [(0, xr K 6 0), (1, .int i1), (2, .int i2), (3, .int i3), (4, .int i4), (5, .int i5)] []) {S : xSt} {i1 : Int32} {i2 : Int32} {i3 : Int32} {i4 : Int32} {i5 : Int32} (h : bW_isAlike_L32   k32 S i1 i2 i3 i4 i5 = some out) : xG K X S 32 [(0, xr K 6 0), (1, .int i1), (2, .int i2), (3, .int i3), (4, .int i4), (5, .int i5)] [] := by
  unfold bW_isAlike_L32 at h
  refine g_iload hX dL_isAlike_32 5 rfl ?_
  refine g_iload_n hX dL_isAlike_34 rfl 3 rfl ?_
  refine g_icmp_ge hX 75 dL_isAlike_35 (by decide) (fun hc => ?_) (fun hc => ?_)
  · have h := xif_t hc h
    refine g_iload hX dL_isAlike_75 4 rfl ?_
    obtain ⟨hz, h⟩ := xne_inv h
    exact g_zret hX hM hz (Option.some.inj h) dL_isAlike_77
  · have h := xif_f hc h
    refine g_iload hX dL_isAlike_38 4 rfl ?_
    refine g_if_eq hX 75 dL_isAlike_40 (by decide) (fun hc => ?_) (fun hc => ?_)
    · have h := xif_t hc h
      refine g_iload hX dL_isAlike_75 4 rfl ?_
      obtain ⟨hz, h⟩ := xne_inv h
      exact g_zret hX hM hz (Option.some.inj h) dL_isAlike_77
    · have h := xif_f hc h
      refine g_aload_n hX dL_isAlike_43 rfl 0 rfl ?_
      refine g_iload_n hX dL_isAlike_44 rfl 1 rfl ?_
      refine g_iload hX dL_isAlike_45 5 rfl ?_
      refine g_iadd hX dL_isAlike_47 ?_
      obtain ⟨S1, r2, hcS1, h⟩ := xbI_inv h
      refine g_callV hX hR hV (fun l => c6_sign (l := l) hX.vc hV hcS1) xc9_14 rfl ⟨by decide, by decide⟩ rfl rfl (Nat.le_of_ble_eq_true rfl) dL_isAlike_48 ?_
      refine g_aload_n hX dL_isAlike_51 rfl 0 rfl ?_
      refine g_iload_n hX dL_isAlike_52 rfl 2 rfl ?_
      refine g_iload hX dL_isAlike_53 5 rfl ?_
      refine g_iadd hX dL_isAlike_55 ?_
      obtain ⟨S3, r4, hcS3, h⟩ := xbI_inv h
      refine g_callV hX hR hV (fun l => c6_sign (l := l) hX.vc hV hcS3) xc9_14 rfl ⟨by decide, by decide⟩ rfl rfl (Nat.le_of_ble_eq_true rfl) dL_isAlike_56 ?_
      refine g_icmp_ne hX 66 dL_isAlike_59 (by decide) (fun hc => ?_) (fun hc => ?_)
      · have h := xif_f hc h
        refine g_iconst (v := (0 : Int32)) hX dL_isAlike_66 (by decide) ?_
        exact g_sub [0, 1, 2, 3, 5] (by rfl) (sfW_isAlike_J67 hX hM hR hV hk32 h)
      · have h := xif_t hc h
        refine g_iconst (v := (1 : Int32)) hX dL_isAlike_62 (by decide) ?_
        refine g_goto hX 67 dL_isAlike_63 (by decide) ?_
        exact g_sub [0, 1, 2, 3, 5] (by rfl) (sfW_isAlike_J67 hX hM hR hV hk32 h)
theorem sfW_isAlike_L32 {K : xK} {X : xX} {out : xR}  (hX : xOK K X RL cL_isAlike 6) (hM : xM K X out (some .boolean)) (hR : xRm X 2 43) (hV : (6, 0) ∈ xvl K)  : ∀ (n : Nat) (S : xSt) (i1 : Int32) (i2 : Int32) (i3 : Int32) (i4 : Int32) (i5 : Int32) (h : fW_isAlike_L32   n S i1 i2 i3 i4 i5 = some out), xG K X S 32 [(0, xr K 6 0), (1, .int i1), (2, .int i2), (3, .int i3), (4, .int i4), (5, .int i5)] [] := by
  intro n
  induction n with
  | zero => intro S i1 i2 i3 i4 i5 h; cases h
  | succ n ih => intro S i1 i2 i3 i4 i5 h; exact sbW_isAlike_L32 hX hM hR hV  ih h
set_option maxRecDepth 100000 in
theorem sfW_isAlike_J27 {K : xK} {X : xX} {out : xR}  (hX : xOK K X RL cL_isAlike 6) (hM : xM K X out (some .boolean)) (hR : xRm X 2 43) (hV : (6, 0) ∈ xvl K)  {S : xSt} {i1 : Int32} {i2 : Int32} {i3 : Int32} {k0 : Int32} (h : fW_isAlike_J27   S i1 i2 i3 k0 = some out) : xG K X S 27 [(0, xr K 6 0), (1, .int i1), (2, .int i2), (3, .int i3)] [.int k0] := by
  unfold fW_isAlike_J27 at h
  refine g_istore (lv2 := [(4, .int k0), (0, xr K 6 0), (1, .int i1), (2, .int i2), (3, .int i3)]) hX dL_isAlike_27 (by decide) rfl ?_
  refine g_iconst (v := (0 : Int32)) hX dL_isAlike_29 (by decide) ?_
  refine g_istore (lv2 := [(5, .int (0 : Int32)), (4, .int k0), (0, xr K 6 0), (1, .int i1), (2, .int i2), (3, .int i3)]) hX dL_isAlike_30 (by decide) rfl ?_
  exact g_sub [2, 3, 4, 5, 1, 0] (by rfl) (sfW_isAlike_L32 hX hM hR hV _ _ _ _ _ _ _ h)
set_option maxRecDepth 100000 in
theorem sfW_isAlike_J26 {K : xK} {X : xX} {out : xR}  (hX : xOK K X RL cL_isAlike 6) (hM : xM K X out (some .boolean)) (hR : xRm X 2 43) (hV : (6, 0) ∈ xvl K)  {S : xSt} {i1 : Int32} {i2 : Int32} {i3 : Int32} (h : fW_isAlike_J26   S i1 i2 i3 = some out) : xG K X S 26 [(0, xr K 6 0), (1, .int i1), (2, .int i2), (3, .int i3)] [] := by
  unfold fW_isAlike_J26 at h
  refine g_iconst (v := (0 : Int32)) hX dL_isAlike_26 (by decide) ?_
  exact sfW_isAlike_J27 hX hM hR hV h
set_option maxRecDepth 100000 in
theorem cW_isAlike {l : Launch} {K : xK}  (hvc : xVC (xvl K)) (hV : (6, 0) ∈ xvl K) {S : xSt} {a1 : Int32} {a2 : Int32} {a3 : Int32} {out : xR} (h : fW_isAlike S  a1 a2 a3 = some out) : xMet l K yL_isAlike cL_isAlike 6 (some .boolean) 2 43 S [xr K 6 0, .int a1, .int a2, .int a3] out := by
  refine xMet_of RL (by decide +kernel) rfl hvc (Nat.le_of_ble_eq_true rfl) ?_
  intro X hX hM hR
  show xG K X S 0 [(0, xr K 6 0), (1, .int a1), (2, .int a2), (3, .int a3)] []
  unfold fW_isAlike at h
  refine g_iload_n hX dL_isAlike_0 rfl 1 rfl ?_
  refine g_iload_n hX dL_isAlike_1 rfl 3 rfl ?_
  refine g_iadd hX dL_isAlike_2 ?_
  refine g_aload_n hX dL_isAlike_3 rfl 0 rfl ?_
  refine g_iconst (v := (0 : Int32)) hX dL_isAlike_4 (by decide) ?_
  obtain ⟨S1, r2, hcS1, h⟩ := xbI_inv h
  refine g_callV hX hR hV (fun l => c6_count (l := l) hX.vc hV hcS1) xc9_8 rfl ⟨by decide, by decide⟩ rfl rfl (Nat.le_of_ble_eq_true rfl) dL_isAlike_5 ?_
  refine g_icmp_gt hX 26 dL_isAlike_8 (by decide) (fun hc => ?_) (fun hc => ?_)
  · have h := xif_t hc h
    exact sfW_isAlike_J26 hX hM hR hV h
  · have h := xif_f hc h
    refine g_iload_n hX dL_isAlike_11 rfl 2 rfl ?_
    refine g_iload_n hX dL_isAlike_12 rfl 3 rfl ?_
    refine g_iadd hX dL_isAlike_13 ?_
    refine g_aload_n hX dL_isAlike_14 rfl 0 rfl ?_
    refine g_iconst (v := (0 : Int32)) hX dL_isAlike_15 (by decide) ?_
    obtain ⟨S3, r4, hcS3, h⟩ := xbI_inv h
    refine g_callV hX hR hV (fun l => c6_count (l := l) hX.vc hV hcS3) xc9_8 rfl ⟨by decide, by decide⟩ rfl rfl (Nat.le_of_ble_eq_true rfl) dL_isAlike_16 ?_
    refine g_icmp_gt hX 26 dL_isAlike_19 (by decide) (fun hc => ?_) (fun hc => ?_)
    · have h := xif_t hc h
      exact sfW_isAlike_J26 hX hM hR hV h
    · have h := xif_f hc h
      refine g_iconst (v := (1 : Int32)) hX dL_isAlike_22 (by decide) ?_
      refine g_goto hX 27 dL_isAlike_23 (by decide) ?_
      exact sfW_isAlike_J27 hX hM hR hV h
set_option maxRecDepth 100000 in
theorem sfW_areCodes_J695 {K0 K : xK} {ρ : xSt → xSt} {X : xX} {out : xR} {rc rs : Nat} (hX : xOK K X RL cL_areCodes 23) (hM : xMN K0 K ρ X (ρ out.1, out.2) (some .boolean) rc rs) (hR : xRm X 3 68) (hV : (6, 0) ∈ xvl K) (hW0 : (33, 0) ∈ xvl K) (hW1 : (33, 1) ∈ xvl K) (hW2 : (33, 2) ∈ xvl K)  {S : xSt} {i1 : Int32} {i2 : Int32} {i9 : Int32} {i11 : Int32} {i13 : Int32} {i14 : Int32} {i15 : Int32} (h : fW_areCodes_J695   S i1 i2 i9 i11 i13 i14 i15 = some out) : xG K X S 695 [(0, xr K 6 0), (1, .int i1), (2, .int i2), (9, .int i9), (11, .int i11), (13, .int i13), (14, .int i14), (15, .int i15)] [] := by
  unfold fW_areCodes_J695 at h
  refine g_iload hX dL_areCodes_695 3 rfl ?_
  refine g_iload_n hX dL_areCodes_697 rfl 2 rfl ?_
  refine g_icmp_ne hX 755 dL_areCodes_698 (by decide) (fun hc => ?_) (fun hc => ?_)
  · have h := xif_f hc h
    refine g_iconst (v := (0 : Int32)) hX dL_areCodes_755 (by decide) ?_
    obtain ⟨hz, h⟩ := xne_inv h
    exact g_zretN hX hM hz (by rw [← Option.some.inj h]) dL_areCodes_756
  · have h := xif_t hc h
    refine g_aload_n hX dL_areCodes_701 rfl 0 rfl ?_
    refine g_iconst (v := (2 : Int32)) hX dL_areCodes_702 (by decide) ?_
    obtain ⟨S1, r2, hcS1, h⟩ := xbI_inv h
    refine g_callV hX hR hV (fun l => c6_count (l := l) hX.vc hV hcS1) xc9_8 rfl ⟨by decide, by decide⟩ rfl rfl (Nat.le_of_ble_eq_true rfl) dL_areCodes_703 ?_
    refine g_iload hX dL_areCodes_706 5 rfl ?_
    refine g_icmp_ne hX 755 dL_areCodes_708 (by decide) (fun hc => ?_) (fun hc => ?_)
    · have h := xif_f hc h
      refine g_iconst (v := (0 : Int32)) hX dL_areCodes_755 (by decide) ?_
      obtain ⟨hz, h⟩ := xne_inv h
      exact g_zretN hX hM hz (by rw [← Option.some.inj h]) dL_areCodes_756
    · have h := xif_t hc h
      refine g_aload_n hX dL_areCodes_711 rfl 0 rfl ?_
      refine g_iconst (v := (3 : Int32)) hX dL_areCodes_712 (by decide) ?_
      obtain ⟨S3, r4, hcS3, h⟩ := xbI_inv h
      refine g_callV hX hR hV (fun l => c6_count (l := l) hX.vc hV hcS3) xc9_8 rfl ⟨by decide, by decide⟩ rfl rfl (Nat.le_of_ble_eq_true rfl) dL_areCodes_713 ?_
      refine g_iload hX dL_areCodes_716 6 rfl ?_
      refine g_icmp_ne hX 755 dL_areCodes_718 (by decide) (fun hc => ?_) (fun hc => ?_)
      · have h := xif_f hc h
        refine g_iconst (v := (0 : Int32)) hX dL_areCodes_755 (by decide) ?_
        obtain ⟨hz, h⟩ := xne_inv h
        exact g_zretN hX hM hz (by rw [← Option.some.inj h]) dL_areCodes_756
      · have h := xif_t hc h
        refine g_aload_n hX dL_areCodes_721 rfl 0 rfl ?_
        refine g_iconst (v := (4 : Int32)) hX dL_areCodes_722 (by decide) ?_
        obtain ⟨S5, r6, hcS5, h⟩ := xbI_inv h
        refine g_callV hX hR hV (fun l => c6_count (l := l) hX.vc hV hcS5) xc9_8 rfl ⟨by decide, by decide⟩ rfl rfl (Nat.le_of_ble_eq_true rfl) dL_areCodes_723 ?_
        refine g_iload hX dL_areCodes_726 4 rfl ?_
        refine g_icmp_ne hX 755 dL_areCodes_728 (by decide) (fun hc => ?_) (fun hc => ?_)
        · have h := xif_f hc h
          refine g_iconst (v := (0 : Int32)) hX dL_areCodes_755 (by decide) ?_
          obtain ⟨hz, h⟩ := xne_inv h
          exact g_zretN hX hM hz (by rw [← Option.some.inj h]) dL_areCodes_756
        · have h := xif_t hc h
          refine g_aload_n hX dL_areCodes_731 rfl 0 rfl ?_
          refine g_iconst (v := (5 : Int32)) hX dL_areCodes_732 (by decide) ?_
          obtain ⟨S7, r8, hcS7, h⟩ := xbI_inv h
          refine g_callV hX hR hV (fun l => c6_count (l := l) hX.vc hV hcS7) xc9_8 rfl ⟨by decide, by decide⟩ rfl rfl (Nat.le_of_ble_eq_true rfl) dL_areCodes_733 ?_
          refine g_iload hX dL_areCodes_736 7 rfl ?_
          refine g_icmp_ne hX 755 dL_areCodes_738 (by decide) (fun hc => ?_) (fun hc => ?_)
          · have h := xif_f hc h
            refine g_iconst (v := (0 : Int32)) hX dL_areCodes_755 (by decide) ?_
            obtain ⟨hz, h⟩ := xne_inv h
            exact g_zretN hX hM hz (by rw [← Option.some.inj h]) dL_areCodes_756
          · have h := xif_t hc h
            refine g_aload_n hX dL_areCodes_741 rfl 0 rfl ?_
            refine g_iload_n hX dL_areCodes_742 rfl 1 rfl ?_
            refine g_iconst (v := (0 : Int32)) hX dL_areCodes_743 (by decide) ?_
            obtain ⟨S9, r10, hcS9, h⟩ := xbI_inv h
            refine g_callV hX hR hV (fun l => c6_ofCode (l := l) hX.vc hV hcS9) xc9_17 rfl ⟨by decide, by decide⟩ rfl rfl (Nat.le_of_ble_eq_true rfl) dL_areCodes_744 ?_
            refine g_iconst (v := (-1 : Int32)) hX dL_areCodes_747 (by decide) ?_
            refine g_icmp_ne hX 755 dL_areCodes_748 (by decide) (fun hc => ?_) (fun hc => ?_)
            · have h := xif_f hc h
              refine g_iconst (v := (0 : Int32)) hX dL_areCodes_755 (by decide) ?_
              obtain ⟨hz, h⟩ := xne_inv h
              exact g_zretN hX hM hz (by rw [← Option.some.inj h]) dL_areCodes_756
            · have h := xif_t hc h
              refine g_iconst (v := (1 : Int32)) hX dL_areCodes_751 (by decide) ?_
              refine g_goto hX 756 dL_areCodes_752 (by decide) ?_
              obtain ⟨hz, h⟩ := xne_inv h
              exact g_zretN hX hM hz (by rw [← Option.some.inj h]) dL_areCodes_756
set_option maxRecDepth 100000 in
theorem sfW_areCodes_J689 {K0 K : xK} {ρ : xSt → xSt} {X : xX} {out : xR} {rc rs : Nat} (hX : xOK K X RL cL_areCodes 23) (hM : xMN K0 K ρ X (ρ out.1, out.2) (some .boolean) rc rs) (hR : xRm X 3 68) (hV : (6, 0) ∈ xvl K) (hW0 : (33, 0) ∈ xvl K) (hW1 : (33, 1) ∈ xvl K) (hW2 : (33, 2) ∈ xvl K) {k134 : xSt → Int32 → Int32 → Int32 → Int32 → Int32 → Int32 → Int32 → Int32 → Int32 → Int32 → Int32 → Int32 → Int32 → Int32 → Option xR} (hk134 : ∀ (S : xSt) (i1 : Int32) (i2 : Int32) (i3 : Int32) (i4 : Int32) (i5 : Int32) (i9 : Int32) (i10 : Int32) (i11 : Int32) (i12 : Int32) (i13 : Int32) (i14 : Int32) (i15 : Int32) (i16 : Int32) (i17 : Int32), k134 S i1 i2 i3 i4 i5 i9 i10 i11 i12 i13 i14 i15 i16 i17 = some out → xG K X S 134 [(0, xr K 6 0), (1, .int i1), (2, .int i2), (3, .int i3), (4, .int i4), (5, .int i5), (6, xr K 33 0), (7, xr K 33 1), (8, xr K 33 2), (9, .int i9), (10, .int i10), (11, .int i11), (12, .int i12), (13, .int i13), (14, .int i14), (15, .int i15), (16, .int i16), (17, .int i17)] []) {S : xSt} {i1 : Int32} {i2 : Int32} {i3 : Int32} {i4 : Int32} {i5 : Int32} {i9 : Int32} {i10 : Int32} {i11 : Int32} {i12 : Int32} {i13 : Int32} {i14 : Int32} {i15 : Int32} {i16 : Int32} {i17 : Int32} (h : fW_areCodes_J689  k134 S i1 i2 i3 i4 i5 i9 i10 i11 i12 i13 i14 i15 i16 i17 = some out) : xG K X S 689 [(0, xr K 6 0), (1, .int i1), (2, .int i2), (3, .int i3), (4, .int i4), (5, .int i5), (6, xr K 33 0), (7, xr K 33 1), (8, xr K 33 2), (9, .int i9), (10, .int i10), (11, .int i11), (12, .int i12), (13, .int i13), (14, .int i14), (15, .int i15), (16, .int i16), (17, .int i17)] [] := by
  unfold fW_areCodes_J689 at h
  refine g_iinc (v := (i17 + (1 : Int32))) (lv2 := [(17, .int (i17 + (1 : Int32))), (0, xr K 6 0), (1, .int i1), (2, .int i2), (3, .int i3), (4, .int i4), (5, .int i5), (6, xr K 33 0), (7, xr K 33 1), (8, xr K 33 2), (9, .int i9), (10, .int i10), (11, .int i11), (12, .int i12), (13, .int i13), (14, .int i14), (15, .int i15), (16, .int i16)]) hX dL_areCodes_689 17 rfl rfl (by decide) rfl ?_
  refine g_goto hX 134 dL_areCodes_692 (by decide) ?_
  exact g_sub [1, 2, 3, 4, 5, 6, 7, 8, 9, 10, 11, 12, 13, 14, 15, 16, 17, 0] (by rfl) (hk134 _ _ _ _ _ _ _ _ _ _ _ _ _ _ _ h)
set_option maxRecDepth 100000 in
theorem sfW_areCodes_J270 {K0 K : xK} {ρ : xSt → xSt} {X : xX} {out : xR} {rc rs : Nat} (hX : xOK K X RL cL_areCodes 23) (hM : xMN K0 K ρ X (ρ out.1, out.2) (some .boolean) rc rs) (hR : xRm X 3 68) (hV : (6, 0) ∈ xvl K) (hW0 : (33, 0) ∈ xvl K) (hW1 : (33, 1) ∈ xvl K) (hW2 : (33, 2) ∈ xvl K) {k134 : xSt → Int32 → Int32 → Int32 → Int32 → Int32 → Int32 → Int32 → Int32 → Int32 → Int32 → Int32 → Int32 → Int32 → Int32 → Option xR} (hk134 : ∀ (S : xSt) (i1 : Int32) (i2 : Int32) (i3 : Int32) (i4 : Int32) (i5 : Int32) (i9 : Int32) (i10 : Int32) (i11 : Int32) (i12 : Int32) (i13 : Int32) (i14 : Int32) (i15 : Int32) (i16 : Int32) (i17 : Int32), k134 S i1 i2 i3 i4 i5 i9 i10 i11 i12 i13 i14 i15 i16 i17 = some out → xG K X S 134 [(0, xr K 6 0), (1, .int i1), (2, .int i2), (3, .int i3), (4, .int i4), (5, .int i5), (6, xr K 33 0), (7, xr K 33 1), (8, xr K 33 2), (9, .int i9), (10, .int i10), (11, .int i11), (12, .int i12), (13, .int i13), (14, .int i14), (15, .int i15), (16, .int i16), (17, .int i17)] []) {S : xSt} {i1 : Int32} {i2 : Int32} {i3 : Int32} {i4 : Int32} {i5 : Int32} {i9 : Int32} {i12 : Int32} {i13 : Int32} {i14 : Int32} {i15 : Int32} {i17 : Int32} {k0 : Int32} (h : fW_areCodes_J270  k134 S i1 i2 i3 i4 i5 i9 i12 i13 i14 i15 i17 k0 = some out) : xG K X S 270 [(0, xr K 6 0), (1, .int i1), (2, .int i2), (3, .int i3), (4, .int i4), (5, .int i5), (6, xr K 33 0), (7, xr K 33 1), (8, xr K 33 2), (9, .int i9), (12, .int i12), (13, .int i13), (14, .int i14), (15, .int i15), (17, .int i17)] [.int k0] := by
  unfold fW_areCodes_J270 at h
  refine g_istore (lv2 := [(11, .int k0), (0, xr K 6 0), (1, .int i1), (2, .int i2), (3, .int i3), (4, .int i4), (5, .int i5), (6, xr K 33 0), (7, xr K 33 1), (8, xr K 33 2), (9, .int i9), (12, .int i12), (13, .int i13), (14, .int i14), (15, .int i15), (17, .int i17)]) hX dL_areCodes_270 (by decide) rfl ?_
  refine g_iload hX dL_areCodes_272 15 rfl ?_
  refine g_iconst (v := (1 : Int32)) hX dL_areCodes_274 (by decide) ?_
  refine g_iadd hX dL_areCodes_275 ?_
  refine g_istore (lv2 := [(10, .int (i17 + (1 : Int32))), (11, .int k0), (0, xr K 6 0), (1, .int i1), (2, .int i2), (3, .int i3), (4, .int i4), (5, .int i5), (6, xr K 33 0), (7, xr K 33 1), (8, xr K 33 2), (9, .int i9), (12, .int i12), (13, .int i13), (14, .int i14), (15, .int i15), (17, .int i17)]) hX dL_areCodes_276 (by decide) rfl ?_
  refine g_iconst (v := (0 : Int32)) hX dL_areCodes_278 (by decide) ?_
  refine g_istore (lv2 := [(16, .int (0 : Int32)), (10, .int (i17 + (1 : Int32))), (11, .int k0), (0, xr K 6 0), (1, .int i1), (2, .int i2), (3, .int i3), (4, .int i4), (5, .int i5), (6, xr K 33 0), (7, xr K 33 1), (8, xr K 33 2), (9, .int i9), (12, .int i12), (13, .int i13), (14, .int i14), (15, .int i15), (17, .int i17)]) hX dL_areCodes_279 (by decide) rfl ?_
  refine g_goto hX 689 dL_areCodes_281 (by decide) ?_
  exact g_sub [3, 4, 5, 6, 7, 8, 9, 10, 11, 12, 1, 2, 13, 14, 15, 16, 0, 17] (by rfl) (sfW_areCodes_J689 hX hM hR hV hW0 hW1 hW2 hk134 h)
set_option maxRecDepth 100000 in
theorem sfW_areCodes_J255 {K0 K : xK} {ρ : xSt → xSt} {X : xX} {out : xR} {rc rs : Nat} (hX : xOK K X RL cL_areCodes 23) (hM : xMN K0 K ρ X (ρ out.1, out.2) (some .boolean) rc rs) (hR : xRm X 3 68) (hV : (6, 0) ∈ xvl K) (hW0 : (33, 0) ∈ xvl K) (hW1 : (33, 1) ∈ xvl K) (hW2 : (33, 2) ∈ xvl K) {k134 : xSt → Int32 → Int32 → Int32 → Int32 → Int32 → Int32 → Int32 → Int32 → Int32 → Int32 → Int32 → Int32 → Int32 → Int32 → Option xR} (hk134 : ∀ (S : xSt) (i1 : Int32) (i2 : Int32) (i3 : Int32) (i4 : Int32) (i5 : Int32) (i9 : Int32) (i10 : Int32) (i11 : Int32) (i12 : Int32) (i13 : Int32) (i14 : Int32) (i15 : Int32) (i16 : Int32) (i17 : Int32), k134 S i1 i2 i3 i4 i5 i9 i10 i11 i12 i13 i14 i15 i16 i17 = some out → xG K X S 134 [(0, xr K 6 0), (1, .int i1), (2, .int i2), (3, .int i3), (4, .int i4), (5, .int i5), (6, xr K 33 0), (7, xr K 33 1), (8, xr K 33 2), (9, .int i9), (10, .int i10), (11, .int i11), (12, .int i12), (13, .int i13), (14, .int i14), (15, .int i15), (16, .int i16), (17, .int i17)] []) {S : xSt} {i1 : Int32} {i2 : Int32} {i3 : Int32} {i4 : Int32} {i5 : Int32} {i9 : Int32} {i11 : Int32} {i12 : Int32} {i13 : Int32} {i15 : Int32} {i16 : Int32} {i17 : Int32} {k0 : Int32} {k1 : Int32} (h : fW_areCodes_J255  k134 S i1 i2 i3 i4 i5 i9 i11 i12 i13 i15 i16 i17 k0 k1 = some out) : xG K X S 255 [(0, xr K 6 0), (1, .int i1), (2, .int i2), (3, .int i3), (4, .int i4), (5, .int i5), (6, xr K 33 0), (7, xr K 33 1), (8, xr K 33 2), (9, .int i9), (11, .int i11), (12, .int i12), (13, .int i13), (15, .int i15), (16, .int i16), (17, .int i17)] [.int k0, .int k1] := by
  unfold fW_areCodes_J255 at h
  refine g_iadd hX dL_areCodes_255 ?_
  refine g_istore (lv2 := [(14, .int (k1 + k0)), (0, xr K 6 0), (1, .int i1), (2, .int i2), (3, .int i3), (4, .int i4), (5, .int i5), (6, xr K 33 0), (7, xr K 33 1), (8, xr K 33 2), (9, .int i9), (11, .int i11), (12, .int i12), (13, .int i13), (15, .int i15), (16, .int i16), (17, .int i17)]) hX dL_areCodes_256 (by decide) rfl ?_
  refine g_iload hX dL_areCodes_258 15 rfl ?_
  refine g_if_eq hX 268 dL_areCodes_260 (by decide) (fun hc => ?_) (fun hc => ?_)
  · have h := xif_t hc h
    refine g_iload hX dL_areCodes_268 11 rfl ?_
    exact g_sub [1, 2, 3, 4, 5, 6, 7, 8, 9, 10, 12, 13, 0, 14, 16] (by rfl) (sfW_areCodes_J270 hX hM hR hV hW0 hW1 hW2 hk134 h)
  · have h := xif_f hc h
    refine g_bipush (v := (10 : Int32)) hX dL_areCodes_263 (by decide) ?_
    refine g_goto hX 270 dL_areCodes_265 (by decide) ?_
    exact g_sub [1, 2, 3, 4, 5, 6, 7, 8, 9, 10, 12, 13, 0, 14, 16] (by rfl) (sfW_areCodes_J270 hX hM hR hV hW0 hW1 hW2 hk134 h)
set_option maxRecDepth 100000 in
theorem sfW_areCodes_J243 {K0 K : xK} {ρ : xSt → xSt} {X : xX} {out : xR} {rc rs : Nat} (hX : xOK K X RL cL_areCodes 23) (hM : xMN K0 K ρ X (ρ out.1, out.2) (some .boolean) rc rs) (hR : xRm X 3 68) (hV : (6, 0) ∈ xvl K) (hW0 : (33, 0) ∈ xvl K) (hW1 : (33, 1) ∈ xvl K) (hW2 : (33, 2) ∈ xvl K) {k134 : xSt → Int32 → Int32 → Int32 → Int32 → Int32 → Int32 → Int32 → Int32 → Int32 → Int32 → Int32 → Int32 → Int32 → Int32 → Option xR} (hk134 : ∀ (S : xSt) (i1 : Int32) (i2 : Int32) (i3 : Int32) (i4 : Int32) (i5 : Int32) (i9 : Int32) (i10 : Int32) (i11 : Int32) (i12 : Int32) (i13 : Int32) (i14 : Int32) (i15 : Int32) (i16 : Int32) (i17 : Int32), k134 S i1 i2 i3 i4 i5 i9 i10 i11 i12 i13 i14 i15 i16 i17 = some out → xG K X S 134 [(0, xr K 6 0), (1, .int i1), (2, .int i2), (3, .int i3), (4, .int i4), (5, .int i5), (6, xr K 33 0), (7, xr K 33 1), (8, xr K 33 2), (9, .int i9), (10, .int i10), (11, .int i11), (12, .int i12), (13, .int i13), (14, .int i14), (15, .int i15), (16, .int i16), (17, .int i17)] []) {S : xSt} {i1 : Int32} {i2 : Int32} {i3 : Int32} {i4 : Int32} {i5 : Int32} {i9 : Int32} {i11 : Int32} {i12 : Int32} {i13 : Int32} {i14 : Int32} {i15 : Int32} {i16 : Int32} {i17 : Int32} (h : fW_areCodes_J243  k134 S i1 i2 i3 i4 i5 i9 i11 i12 i13 i14 i15 i16 i17 = some out) : xG K X S 243 [(0, xr K 6 0), (1, .int i1), (2, .int i2), (3, .int i3), (4, .int i4), (5, .int i5), (6, xr K 33 0), (7, xr K 33 1), (8, xr K 33 2), (9, .int i9), (11, .int i11), (12, .int i12), (13, .int i13), (14, .int i14), (15, .int i15), (16, .int i16), (17, .int i17)] [] := by
  unfold fW_areCodes_J243 at h
  refine g_iload hX dL_areCodes_243 13 rfl ?_
  refine g_iload hX dL_areCodes_245 15 rfl ?_
  refine g_if_eq hX 254 dL_areCodes_247 (by decide) (fun hc => ?_) (fun hc => ?_)
  · have h := xif_t hc h
    refine g_iconst (v := (0 : Int32)) hX dL_areCodes_254 (by decide) ?_
    exact g_sub [0, 1, 2, 3, 4, 5, 6, 7, 8, 9, 10, 11, 12, 14, 15, 16] (by rfl) (sfW_areCodes_J255 hX hM hR hV hW0 hW1 hW2 hk134 h)
  · have h := xif_f hc h
    refine g_iconst (v := (1 : Int32)) hX dL_areCodes_250 (by decide) ?_
    refine g_goto hX 255 dL_areCodes_251 (by decide) ?_
    exact g_sub [0, 1, 2, 3, 4, 5, 6, 7, 8, 9, 10, 11, 12, 14, 15, 16] (by rfl) (sfW_areCodes_J255 hX hM hR hV hW0 hW1 hW2 hk134 h)
set_option maxRecDepth 100000 in
theorem sfW_areCodes_J207 {K0 K : xK} {ρ : xSt → xSt} {X : xX} {out : xR} {rc rs : Nat} (hX : xOK K X RL cL_areCodes 23) (hM : xMN K0 K ρ X (ρ out.1, out.2) (some .boolean) rc rs) (hR : xRm X 3 68) (hV : (6, 0) ∈ xvl K) (hW0 : (33, 0) ∈ xvl K) (hW1 : (33, 1) ∈ xvl K) (hW2 : (33, 2) ∈ xvl K) {k134 : xSt → Int32 → Int32 → Int32 → Int32 → Int32 → Int32 → Int32 → Int32 → Int32 → Int32 → Int32 → Int32 → Int32 → Int32 → Option xR} (hk134 : ∀ (S : xSt) (i1 : Int32) (i2 : Int32) (i3 : Int32) (i4 : Int32) (i5 : Int32) (i9 : Int32) (i10 : Int32) (i11 : Int32) (i12 : Int32) (i13 : Int32) (i14 : Int32) (i15 : Int32) (i16 : Int32) (i17 : Int32), k134 S i1 i2 i3 i4 i5 i9 i10 i11 i12 i13 i14 i15 i16 i17 = some out → xG K X S 134 [(0, xr K 6 0), (1, .int i1), (2, .int i2), (3, .int i3), (4, .int i4), (5, .int i5), (6, xr K 33 0), (7, xr K 33 1), (8, xr K 33 2), (9, .int i9), (10, .int i10), (11, .int i11), (12, .int i12), (13, .int i13), (14, .int i14), (15, .int i15), (16, .int i16), (17, .int i17)] []) {S : xSt} {i1 : Int32} {i2 : Int32} {i3 : Int32} {i4 : Int32} {i5 : Int32} {i9 : Int32} {i11 : Int32} {i12 : Int32} {i13 : Int32} {i14 : Int32} {i15 : Int32} {i16 : Int32} {i17 : Int32} {k0 : Int32} {k1 : Int32} (h : fW_areCodes_J207  k134 S i1 i2 i3 i4 i5 i9 i11 i12 i13 i14 i15 i16 i17 k0 k1 = some out) : xG K X S 207 [(0, xr K 6 0), (1, .int i1), (2, .int i2), (3, .int i3), (4, .int i4), (5, .int i5), (6, xr K 33 0), (7, xr K 33 1), (8, xr K 33 2), (9, .int i9), (11, .int i11), (12, .int i12), (13, .int i13), (14, .int i14), (15, .int i15), (16, .int i16), (17, .int i17)] [.int k0, .int k1] := by
  unfold fW_areCodes_J207 at h
  refine g_icmp_ne hX 241 dL_areCodes_207 (by decide) (fun hc => ?_) (fun hc => ?_)
  · have h := xif_f hc h
    refine g_iconst (v := (0 : Int32)) hX dL_areCodes_241 (by decide) ?_
    obtain ⟨hz, h⟩ := xne_inv h
    exact g_zretN hX hM hz (by rw [← Option.some.inj h]) dL_areCodes_242
  · have h := xif_t hc h
    refine g_aload hX dL_areCodes_210 7 rfl ?_
    refine g_iload hX dL_areCodes_212 16 rfl ?_
    obtain ⟨hbj1, h⟩ := xat_inv h
    refine g_iald (n := 64) hX hW1 rfl hbj1 dL_areCodes_214 ?_
    refine g_bipush (v := (-6 : Int32)) hX dL_areCodes_215 (by decide) ?_
    refine g_icmp_ne hX 241 dL_areCodes_217 (by decide) (fun hc => ?_) (fun hc => ?_)
    · have h := xif_f hc h
      refine g_iconst (v := (0 : Int32)) hX dL_areCodes_241 (by decide) ?_
      obtain ⟨hz, h⟩ := xne_inv h
      exact g_zretN hX hM hz (by rw [← Option.some.inj h]) dL_areCodes_242
    · have h := xif_t hc h
      refine g_aload hX dL_areCodes_220 8 rfl ?_
      refine g_iload hX dL_areCodes_222 16 rfl ?_
      obtain ⟨hbj2, h⟩ := xat_inv h
      refine g_iald (n := 64) hX hW2 rfl hbj2 dL_areCodes_224 ?_
      refine g_if_ne hX 241 dL_areCodes_225 (by decide) (fun hc => ?_) (fun hc => ?_)
      · have h := xif_f hc h
        refine g_iconst (v := (0 : Int32)) hX dL_areCodes_241 (by decide) ?_
        obtain ⟨hz, h⟩ := xne_inv h
        exact g_zretN hX hM hz (by rw [← Option.some.inj h]) dL_areCodes_242
      · have h := xif_t hc h
        refine g_iload hX dL_areCodes_228 15 rfl ?_
        refine g_if_ne hX 243 dL_areCodes_230 (by decide) (fun hc => ?_) (fun hc => ?_)
        · have h := xif_f hc h
          exact sfW_areCodes_J243 hX hM hR hV hW0 hW1 hW2 hk134 h
        · have h := xif_t hc h
          refine g_iload hX dL_areCodes_233 16 rfl ?_
          refine g_iload_n hX dL_areCodes_235 rfl 1 rfl ?_
          refine g_iconst (v := (1 : Int32)) hX dL_areCodes_236 (by decide) ?_
          refine g_isub hX dL_areCodes_237 ?_
          refine g_icmp_eq hX 243 dL_areCodes_238 (by decide) (fun hc => ?_) (fun hc => ?_)
          · have h := xif_t hc h
            exact sfW_areCodes_J243 hX hM hR hV hW0 hW1 hW2 hk134 h
          · have h := xif_f hc h
            refine g_iconst (v := (0 : Int32)) hX dL_areCodes_241 (by decide) ?_
            obtain ⟨hz, h⟩ := xne_inv h
            exact g_zretN hX hM hz (by rw [← Option.some.inj h]) dL_areCodes_242
set_option maxRecDepth 100000 in
theorem sfW_areCodes_J190 {K0 K : xK} {ρ : xSt → xSt} {X : xX} {out : xR} {rc rs : Nat} (hX : xOK K X RL cL_areCodes 23) (hM : xMN K0 K ρ X (ρ out.1, out.2) (some .boolean) rc rs) (hR : xRm X 3 68) (hV : (6, 0) ∈ xvl K) (hW0 : (33, 0) ∈ xvl K) (hW1 : (33, 1) ∈ xvl K) (hW2 : (33, 2) ∈ xvl K) {k134 : xSt → Int32 → Int32 → Int32 → Int32 → Int32 → Int32 → Int32 → Int32 → Int32 → Int32 → Int32 → Int32 → Int32 → Int32 → Option xR} (hk134 : ∀ (S : xSt) (i1 : Int32) (i2 : Int32) (i3 : Int32) (i4 : Int32) (i5 : Int32) (i9 : Int32) (i10 : Int32) (i11 : Int32) (i12 : Int32) (i13 : Int32) (i14 : Int32) (i15 : Int32) (i16 : Int32) (i17 : Int32), k134 S i1 i2 i3 i4 i5 i9 i10 i11 i12 i13 i14 i15 i16 i17 = some out → xG K X S 134 [(0, xr K 6 0), (1, .int i1), (2, .int i2), (3, .int i3), (4, .int i4), (5, .int i5), (6, xr K 33 0), (7, xr K 33 1), (8, xr K 33 2), (9, .int i9), (10, .int i10), (11, .int i11), (12, .int i12), (13, .int i13), (14, .int i14), (15, .int i15), (16, .int i16), (17, .int i17)] []) {S : xSt} {i1 : Int32} {i2 : Int32} {i3 : Int32} {i4 : Int32} {i5 : Int32} {i9 : Int32} {i11 : Int32} {i12 : Int32} {i13 : Int32} {i14 : Int32} {i15 : Int32} {i16 : Int32} {i17 : Int32} (h : fW_areCodes_J190  k134 S i1 i2 i3 i4 i5 i9 i11 i12 i13 i14 i15 i16 i17 = some out) : xG K X S 190 [(0, xr K 6 0), (1, .int i1), (2, .int i2), (3, .int i3), (4, .int i4), (5, .int i5), (6, xr K 33 0), (7, xr K 33 1), (8, xr K 33 2), (9, .int i9), (11, .int i11), (12, .int i12), (13, .int i13), (14, .int i14), (15, .int i15), (16, .int i16), (17, .int i17)] [] := by
  unfold fW_areCodes_J190 at h
  refine g_aload hX dL_areCodes_190 6 rfl ?_
  refine g_iload hX dL_areCodes_192 16 rfl ?_
  obtain ⟨hbj1, h⟩ := xat_inv h
  refine g_iald (n := 64) hX hW0 rfl hbj1 dL_areCodes_194 ?_
  refine g_iload hX dL_areCodes_195 15 rfl ?_
  refine g_if_eq hX 205 dL_areCodes_197 (by decide) (fun hc => ?_) (fun hc => ?_)
  · have h := xif_t hc h
    refine g_bipush (v := (9 : Int32)) hX dL_areCodes_205 (by decide) ?_
    exact sfW_areCodes_J207 hX hM hR hV hW0 hW1 hW2 hk134 h
  · have h := xif_f hc h
    refine g_bipush (v := (8 : Int32)) hX dL_areCodes_200 (by decide) ?_
    refine g_goto hX 207 dL_areCodes_202 (by decide) ?_
    exact sfW_areCodes_J207 hX hM hR hV hW0 hW1 hW2 hk134 h
set_option maxRecDepth 100000 in
theorem sfW_areCodes_J687 {K0 K : xK} {ρ : xSt → xSt} {X : xX} {out : xR} {rc rs : Nat} (hX : xOK K X RL cL_areCodes 23) (hM : xMN K0 K ρ X (ρ out.1, out.2) (some .boolean) rc rs) (hR : xRm X 3 68) (hV : (6, 0) ∈ xvl K) (hW0 : (33, 0) ∈ xvl K) (hW1 : (33, 1) ∈ xvl K) (hW2 : (33, 2) ∈ xvl K) {k134 : xSt → Int32 → Int32 → Int32 → Int32 → Int32 → Int32 → Int32 → Int32 → Int32 → Int32 → Int32 → Int32 → Int32 → Int32 → Option xR} (hk134 : ∀ (S : xSt) (i1 : Int32) (i2 : Int32) (i3 : Int32) (i4 : Int32) (i5 : Int32) (i9 : Int32) (i10 : Int32) (i11 : Int32) (i12 : Int32) (i13 : Int32) (i14 : Int32) (i15 : Int32) (i16 : Int32) (i17 : Int32), k134 S i1 i2 i3 i4 i5 i9 i10 i11 i12 i13 i14 i15 i16 i17 = some out → xG K X S 134 [(0, xr K 6 0), (1, .int i1), (2, .int i2), (3, .int i3), (4, .int i4), (5, .int i5), (6, xr K 33 0), (7, xr K 33 1), (8, xr K 33 2), (9, .int i9), (10, .int i10), (11, .int i11), (12, .int i12), (13, .int i13), (14, .int i14), (15, .int i15), (16, .int i16), (17, .int i17)] []) {S : xSt} {i1 : Int32} {i2 : Int32} {i3 : Int32} {i4 : Int32} {i5 : Int32} {i9 : Int32} {i10 : Int32} {i11 : Int32} {i12 : Int32} {i13 : Int32} {i14 : Int32} {i15 : Int32} {i17 : Int32} {k0 : Int32} (h : fW_areCodes_J687  k134 S i1 i2 i3 i4 i5 i9 i10 i11 i12 i13 i14 i15 i17 k0 = some out) : xG K X S 687 [(0, xr K 6 0), (1, .int i1), (2, .int i2), (3, .int i3), (4, .int i4), (5, .int i5), (6, xr K 33 0), (7, xr K 33 1), (8, xr K 33 2), (9, .int i9), (10, .int i10), (11, .int i11), (12, .int i12), (13, .int i13), (14, .int i14), (15, .int i15), (17, .int i17)] [.int k0] := by
  unfold fW_areCodes_J687 at h
  refine g_istore (lv2 := [(16, .int k0), (0, xr K 6 0), (1, .int i1), (2, .int i2), (3, .int i3), (4, .int i4), (5, .int i5), (6, xr K 33 0), (7, xr K 33 1), (8, xr K 33 2), (9, .int i9), (10, .int i10), (11, .int i11), (12, .int i12), (13, .int i13), (14, .int i14), (15, .int i15), (17, .int i17)]) hX dL_areCodes_687 (by decide) rfl ?_
  exact g_sub [1, 2, 3, 4, 5, 6, 7, 8, 9, 10, 11, 12, 13, 14, 15, 16, 0, 17] (by rfl) (sfW_areCodes_J689 hX hM hR hV hW0 hW1 hW2 hk134 h)
set_option maxRecDepth 100000 in
theorem sfW_areCodes_J686 {K0 K : xK} {ρ : xSt → xSt} {X : xX} {out : xR} {rc rs : Nat} (hX : xOK K X RL cL_areCodes 23) (hM : xMN K0 K ρ X (ρ out.1, out.2) (some .boolean) rc rs) (hR : xRm X 3 68) (hV : (6, 0) ∈ xvl K) (hW0 : (33, 0) ∈ xvl K) (hW1 : (33, 1) ∈ xvl K) (hW2 : (33, 2) ∈ xvl K) {k134 : xSt → Int32 → Int32 → Int32 → Int32 → Int32 → Int32 → Int32 → Int32 → Int32 → Int32 → Int32 → Int32 → Int32 → Int32 → Option xR} (hk134 : ∀ (S : xSt) (i1 : Int32) (i2 : Int32) (i3 : Int32) (i4 : Int32) (i5 : Int32) (i9 : Int32) (i10 : Int32) (i11 : Int32) (i12 : Int32) (i13 : Int32) (i14 : Int32) (i15 : Int32) (i16 : Int32) (i17 : Int32), k134 S i1 i2 i3 i4 i5 i9 i10 i11 i12 i13 i14 i15 i16 i17 = some out → xG K X S 134 [(0, xr K 6 0), (1, .int i1), (2, .int i2), (3, .int i3), (4, .int i4), (5, .int i5), (6, xr K 33 0), (7, xr K 33 1), (8, xr K 33 2), (9, .int i9), (10, .int i10), (11, .int i11), (12, .int i12), (13, .int i13), (14, .int i14), (15, .int i15), (16, .int i16), (17, .int i17)] []) {S : xSt} {i1 : Int32} {i2 : Int32} {i3 : Int32} {i4 : Int32} {i5 : Int32} {i9 : Int32} {i10 : Int32} {i11 : Int32} {i12 : Int32} {i13 : Int32} {i14 : Int32} {i15 : Int32} {i17 : Int32} (h : fW_areCodes_J686  k134 S i1 i2 i3 i4 i5 i9 i10 i11 i12 i13 i14 i15 i17 = some out) : xG K X S 686 [(0, xr K 6 0), (1, .int i1), (2, .int i2), (3, .int i3), (4, .int i4), (5, .int i5), (6, xr K 33 0), (7, xr K 33 1), (8, xr K 33 2), (9, .int i9), (10, .int i10), (11, .int i11), (12, .int i12), (13, .int i13), (14, .int i14), (15, .int i15), (17, .int i17)] [] := by
  unfold fW_areCodes_J686 at h
  refine g_iconst (v := (0 : Int32)) hX dL_areCodes_686 (by decide) ?_
  exact sfW_areCodes_J687 hX hM hR hV hW0 hW1 hW2 hk134 h
set_option maxRecDepth 100000 in
theorem sfW_areCodes_J682 {K0 K : xK} {ρ : xSt → xSt} {X : xX} {out : xR} {rc rs : Nat} (hX : xOK K X RL cL_areCodes 23) (hM : xMN K0 K ρ X (ρ out.1, out.2) (some .boolean) rc rs) (hR : xRm X 3 68) (hV : (6, 0) ∈ xvl K) (hW0 : (33, 0) ∈ xvl K) (hW1 : (33, 1) ∈ xvl K) (hW2 : (33, 2) ∈ xvl K) {k134 : xSt → Int32 → Int32 → Int32 → Int32 → Int32 → Int32 → Int32 → Int32 → Int32 → Int32 → Int32 → Int32 → Int32 → Int32 → Option xR} (hk134 : ∀ (S : xSt) (i1 : Int32) (i2 : Int32) (i3 : Int32) (i4 : Int32) (i5 : Int32) (i9 : Int32) (i10 : Int32) (i11 : Int32) (i12 : Int32) (i13 : Int32) (i14 : Int32) (i15 : Int32) (i16 : Int32) (i17 : Int32), k134 S i1 i2 i3 i4 i5 i9 i10 i11 i12 i13 i14 i15 i16 i17 = some out → xG K X S 134 [(0, xr K 6 0), (1, .int i1), (2, .int i2), (3, .int i3), (4, .int i4), (5, .int i5), (6, xr K 33 0), (7, xr K 33 1), (8, xr K 33 2), (9, .int i9), (10, .int i10), (11, .int i11), (12, .int i12), (13, .int i13), (14, .int i14), (15, .int i15), (16, .int i16), (17, .int i17)] []) {S : xSt} {i1 : Int32} {i2 : Int32} {i3 : Int32} {i4 : Int32} {i5 : Int32} {i9 : Int32} {i10 : Int32} {i11 : Int32} {i12 : Int32} {i13 : Int32} {i14 : Int32} {i15 : Int32} {i17 : Int32} (h : fW_areCodes_J682  k134 S i1 i2 i3 i4 i5 i9 i10 i11 i12 i13 i14 i15 i17 = some out) : xG K X S 682 [(0, xr K 6 0), (1, .int i1), (2, .int i2), (3, .int i3), (4, .int i4), (5, .int i5), (6, xr K 33 0), (7, xr K 33 1), (8, xr K 33 2), (9, .int i9), (10, .int i10), (11, .int i11), (12, .int i12), (13, .int i13), (14, .int i14), (15, .int i15), (17, .int i17)] [] := by
  unfold fW_areCodes_J682 at h
  refine g_iconst (v := (1 : Int32)) hX dL_areCodes_682 (by decide) ?_
  refine g_goto hX 687 dL_areCodes_683 (by decide) ?_
  exact sfW_areCodes_J687 hX hM hR hV hW0 hW1 hW2 hk134 h
set_option maxRecDepth 100000 in
theorem sfW_areCodes_J657 {K0 K : xK} {ρ : xSt → xSt} {X : xX} {out : xR} {rc rs : Nat} (hX : xOK K X RL cL_areCodes 23) (hM : xMN K0 K ρ X (ρ out.1, out.2) (some .boolean) rc rs) (hR : xRm X 3 68) (hV : (6, 0) ∈ xvl K) (hW0 : (33, 0) ∈ xvl K) (hW1 : (33, 1) ∈ xvl K) (hW2 : (33, 2) ∈ xvl K) {k134 : xSt → Int32 → Int32 → Int32 → Int32 → Int32 → Int32 → Int32 → Int32 → Int32 → Int32 → Int32 → Int32 → Int32 → Int32 → Option xR} (hk134 : ∀ (S : xSt) (i1 : Int32) (i2 : Int32) (i3 : Int32) (i4 : Int32) (i5 : Int32) (i9 : Int32) (i10 : Int32) (i11 : Int32) (i12 : Int32) (i13 : Int32) (i14 : Int32) (i15 : Int32) (i16 : Int32) (i17 : Int32), k134 S i1 i2 i3 i4 i5 i9 i10 i11 i12 i13 i14 i15 i16 i17 = some out → xG K X S 134 [(0, xr K 6 0), (1, .int i1), (2, .int i2), (3, .int i3), (4, .int i4), (5, .int i5), (6, xr K 33 0), (7, xr K 33 1), (8, xr K 33 2), (9, .int i9), (10, .int i10), (11, .int i11), (12, .int i12), (13, .int i13), (14, .int i14), (15, .int i15), (16, .int i16), (17, .int i17)] []) {S : xSt} {i1 : Int32} {i2 : Int32} {i3 : Int32} {i4 : Int32} {i5 : Int32} {i9 : Int32} {i10 : Int32} {i11 : Int32} {i12 : Int32} {i13 : Int32} {i14 : Int32} {i15 : Int32} {i17 : Int32} {i20 : Int32} {i21 : Int32} (h : fW_areCodes_J657  k134 S i1 i2 i3 i4 i5 i9 i10 i11 i12 i13 i14 i15 i17 i20 i21 = some out) : xG K X S 657 [(0, xr K 6 0), (1, .int i1), (2, .int i2), (3, .int i3), (4, .int i4), (5, .int i5), (6, xr K 33 0), (7, xr K 33 1), (8, xr K 33 2), (9, .int i9), (10, .int i10), (11, .int i11), (12, .int i12), (13, .int i13), (14, .int i14), (15, .int i15), (17, .int i17), (20, .int i20), (21, .int i21)] [] := by
  unfold fW_areCodes_J657 at h
  refine g_iload hX dL_areCodes_657 11 rfl ?_
  refine g_iload_n hX dL_areCodes_659 rfl 3 rfl ?_
  refine g_icmp_ne hX 686 dL_areCodes_660 (by decide) (fun hc => ?_) (fun hc => ?_)
  · have h := xif_f hc h
    exact g_sub [0, 1, 2, 3, 4, 5, 6, 7, 8, 9, 10, 11, 12, 13, 14, 15, 16] (by rfl) (sfW_areCodes_J686 hX hM hR hV hW0 hW1 hW2 hk134 h)
  · have h := xif_t hc h
    refine g_iload hX dL_areCodes_663 4 rfl ?_
    refine g_iconst (v := (1 : Int32)) hX dL_areCodes_665 (by decide) ?_
    refine g_icmp_eq hX 682 dL_areCodes_666 (by decide) (fun hc => ?_) (fun hc => ?_)
    · have h := xif_t hc h
      exact g_sub [0, 1, 2, 3, 4, 5, 6, 7, 8, 9, 10, 11, 12, 13, 14, 15, 16] (by rfl) (sfW_areCodes_J682 hX hM hR hV hW0 hW1 hW2 hk134 h)
    · have h := xif_f hc h
      refine g_iload hX dL_areCodes_669 4 rfl ?_
      refine g_iconst (v := (2 : Int32)) hX dL_areCodes_671 (by decide) ?_
      refine g_icmp_ne hX 686 dL_areCodes_672 (by decide) (fun hc => ?_) (fun hc => ?_)
      · have h := xif_f hc h
        exact g_sub [0, 1, 2, 3, 4, 5, 6, 7, 8, 9, 10, 11, 12, 13, 14, 15, 16] (by rfl) (sfW_areCodes_J686 hX hM hR hV hW0 hW1 hW2 hk134 h)
      · have h := xif_t hc h
        refine g_iload hX dL_areCodes_675 17 rfl ?_
        refine g_iload hX dL_areCodes_677 18 rfl ?_
        refine g_icmp_ge hX 686 dL_areCodes_679 (by decide) (fun hc => ?_) (fun hc => ?_)
        · have h := xif_t hc h
          exact g_sub [0, 1, 2, 3, 4, 5, 6, 7, 8, 9, 10, 11, 12, 13, 14, 15, 16] (by rfl) (sfW_areCodes_J686 hX hM hR hV hW0 hW1 hW2 hk134 h)
        · have h := xif_f hc h
          exact g_sub [0, 1, 2, 3, 4, 5, 6, 7, 8, 9, 10, 11, 12, 13, 14, 15, 16] (by rfl) (sfW_areCodes_J682 hX hM hR hV hW0 hW1 hW2 hk134 h)
set_option maxRecDepth 100000 in
theorem sbW_areCodes_L601 {K0 K : xK} {ρ : xSt → xSt} {X : xX} {out : xR} {rc rs : Nat} (hX : xOK K X RL cL_areCodes 23) (hM : xMN K0 K ρ X (ρ out.1, out.2) (some .boolean) rc rs) (hR : xRm X 3 68) (hV : (6, 0) ∈ xvl K) (hW0 : (33, 0) ∈ xvl K) (hW1 : (33, 1) ∈ xvl K) (hW2 : (33, 2) ∈ xvl K) {k134 : xSt → Int32 → Int32 → Int32 → Int32 → Int32 → Int32 → Int32 → Int32 → Int32 → Int32 → Int32 → Int32 → Int32 → Int32 → Option xR} (hk134 : ∀ (S : xSt) (i1 : Int32) (i2 : Int32) (i3 : Int32) (i4 : Int32) (i5 : Int32) (i9 : Int32) (i10 : Int32) (i11 : Int32) (i12 : Int32) (i13 : Int32) (i14 : Int32) (i15 : Int32) (i16 : Int32) (i17 : Int32), k134 S i1 i2 i3 i4 i5 i9 i10 i11 i12 i13 i14 i15 i16 i17 = some out → xG K X S 134 [(0, xr K 6 0), (1, .int i1), (2, .int i2), (3, .int i3), (4, .int i4), (5, .int i5), (6, xr K 33 0), (7, xr K 33 1), (8, xr K 33 2), (9, .int i9), (10, .int i10), (11, .int i11), (12, .int i12), (13, .int i13), (14, .int i14), (15, .int i15), (16, .int i16), (17, .int i17)] []) {k601 : xSt → Int32 → Int32 → Int32 → Int32 → Int32 → Int32 → Int32 → Int32 → Int32 → Int32 → Int32 → Int32 → Int32 → Int32 → Int32 → Int32 → Option xR} (hk601 : ∀ (S : xSt) (i1 : Int32) (i2 : Int32) (i3 : Int32) (i4 : Int32) (i5 : Int32) (i9 : Int32) (i10 : Int32) (i11 : Int32) (i12 : Int32) (i13 : Int32) (i14 : Int32) (i15 : Int32) (i17 : Int32) (i20 : Int32) (i21 : Int32) (i22 : Int32), k601 S i1 i2 i3 i4 i5 i9 i10 i11 i12 i13 i14 i15 i17 i20 i21 i22 = some out → xG K X S 601 [(0, xr K 6 0), (1, .int i1), (2, .int i2), (3, .int i3), (4, .int i4), (5, .int i5), (6, xr K 33 0), (7, xr K 33 1), (8, xr K 33 2), (9, .int i9), (10, .int i10), (11, .int i11), (12, .int i12), (13, .int i13), (14, .int i14), (15, .int i15), (17, .int i17), (20, .int i20), (21, .int i21), (22, .int i22)] []) {S : xSt} {i1 : Int32} {i2 : Int32} {i3 : Int32} {i4 : Int32} {i5 : Int32} {i9 : Int32} {i10 : Int32} {i11 : Int32} {i12 : Int32} {i13 : Int32} {i14 : Int32} {i15 : Int32} {i17 : Int32} {i20 : Int32} {i21 : Int32} {i22 : Int32} (h : bW_areCodes_L601  k134 k601 S i1 i2 i3 i4 i5 i9 i10 i11 i12 i13 i14 i15 i17 i20 i21 i22 = some out) : xG K X S 601 [(0, xr K 6 0), (1, .int i1), (2, .int i2), (3, .int i3), (4, .int i4), (5, .int i5), (6, xr K 33 0), (7, xr K 33 1), (8, xr K 33 2), (9, .int i9), (10, .int i10), (11, .int i11), (12, .int i12), (13, .int i13), (14, .int i14), (15, .int i15), (17, .int i17), (20, .int i20), (21, .int i21), (22, .int i22)] [] := by
  unfold bW_areCodes_L601 at h
  refine g_iload hX dL_areCodes_601 19 rfl ?_
  refine g_iload hX dL_areCodes_603 5 rfl ?_
  refine g_icmp_ge hX 657 dL_areCodes_605 (by decide) (fun hc => ?_) (fun hc => ?_)
  · have h := xif_t hc h
    exact g_sub [0, 1, 2, 3, 4, 5, 6, 7, 8, 9, 10, 11, 12, 13, 14, 15, 16, 17, 18] (by rfl) (sfW_areCodes_J657 hX hM hR hV hW0 hW1 hW2 hk134 h)
  · have h := xif_f hc h
    refine g_iload hX dL_areCodes_608 16 rfl ?_
    refine g_iconst (v := (1 : Int32)) hX dL_areCodes_610 (by decide) ?_
    refine g_iadd hX dL_areCodes_611 ?_
    refine g_iload hX dL_areCodes_612 12 rfl ?_
    refine g_isub hX dL_areCodes_614 ?_
    refine g_iconst (v := (2 : Int32)) hX dL_areCodes_615 (by decide) ?_
    refine g_iload hX dL_areCodes_616 5 rfl ?_
    refine g_imul hX dL_areCodes_618 ?_
    refine g_icmp_lt hX 657 dL_areCodes_619 (by decide) (fun hc => ?_) (fun hc => ?_)
    · have h := xif_t hc h
      exact g_sub [0, 1, 2, 3, 4, 5, 6, 7, 8, 9, 10, 11, 12, 13, 14, 15, 16, 17, 18] (by rfl) (sfW_areCodes_J657 hX hM hR hV hW0 hW1 hW2 hk134 h)
    · have h := xif_f hc h
      refine g_iload hX dL_areCodes_622 17 rfl ?_
      refine g_aload hX dL_areCodes_624 8 rfl ?_
      refine g_iload hX dL_areCodes_626 16 rfl ?_
      refine g_iload hX dL_areCodes_628 19 rfl ?_
      refine g_isub hX dL_areCodes_630 ?_
      obtain ⟨hbj1, h⟩ := xat_inv h
      refine g_iald (n := 64) hX hW2 rfl hbj1 dL_areCodes_631 ?_
      refine g_iadd hX dL_areCodes_632 ?_
      refine g_istore (lv2 := [(20, .int (i20 + (S 33 2 ((i17 - i22)).toNatClampNeg))), (0, xr K 6 0), (1, .int i1), (2, .int i2), (3, .int i3), (4, .int i4), (5, .int i5), (6, xr K 33 0), (7, xr K 33 1), (8, xr K 33 2), (9, .int i9), (10, .int i10), (11, .int i11), (12, .int i12), (13, .int i13), (14, .int i14), (15, .int i15), (17, .int i17), (21, .int i21), (22, .int i22)]) hX dL_areCodes_633 (by decide) rfl ?_
      refine g_iload hX dL_areCodes_635 18 rfl ?_
      refine g_aload hX dL_areCodes_637 9 rfl ?_
      refine g_iload hX dL_areCodes_639 17 rfl ?_
      refine g_iload hX dL_areCodes_641 6 rfl ?_
      refine g_isub hX dL_areCodes_643 ?_
      refine g_iload hX dL_areCodes_644 19 rfl ?_
      refine g_isub hX dL_areCodes_646 ?_
      obtain ⟨hbj2, h⟩ := xat_inv h
      refine g_iald (n := 64) hX hW2 rfl hbj2 dL_areCodes_647 ?_
      refine g_iadd hX dL_areCodes_648 ?_
      refine g_istore (lv2 := [(21, .int (i21 + (S 33 2 (((i17 - i5) - i22)).toNatClampNeg))), (20, .int (i20 + (S 33 2 ((i17 - i22)).toNatClampNeg))), (0, xr K 6 0), (1, .int i1), (2, .int i2), (3, .int i3), (4, .int i4), (5, .int i5), (6, xr K 33 0), (7, xr K 33 1), (8, xr K 33 2), (9, .int i9), (10, .int i10), (11, .int i11), (12, .int i12), (13, .int i13), (14, .int i14), (15, .int i15), (17, .int i17), (22, .int i22)]) hX dL_areCodes_649 (by decide) rfl ?_
      refine g_iinc (v := (i22 + (1 : Int32))) (lv2 := [(22, .int (i22 + (1 : Int32))), (21, .int (i21 + (S 33 2 (((i17 - i5) - i22)).toNatClampNeg))), (20, .int (i20 + (S 33 2 ((i17 - i22)).toNatClampNeg))), (0, xr K 6 0), (1, .int i1), (2, .int i2), (3, .int i3), (4, .int i4), (5, .int i5), (6, xr K 33 0), (7, xr K 33 1), (8, xr K 33 2), (9, .int i9), (10, .int i10), (11, .int i11), (12, .int i12), (13, .int i13), (14, .int i14), (15, .int i15), (17, .int i17)]) hX dL_areCodes_651 19 rfl rfl (by decide) rfl ?_
      refine g_goto hX 601 dL_areCodes_654 (by decide) ?_
      exact g_sub [3, 4, 5, 6, 7, 8, 9, 10, 11, 12, 13, 14, 15, 16, 17, 18, 19, 2, 1, 0] (by rfl) (hk601 _ _ _ _ _ _ _ _ _ _ _ _ _ _ _ _ _ h)
theorem sfW_areCodes_L601 {K0 K : xK} {ρ : xSt → xSt} {X : xX} {out : xR} {rc rs : Nat} (hX : xOK K X RL cL_areCodes 23) (hM : xMN K0 K ρ X (ρ out.1, out.2) (some .boolean) rc rs) (hR : xRm X 3 68) (hV : (6, 0) ∈ xvl K) (hW0 : (33, 0) ∈ xvl K) (hW1 : (33, 1) ∈ xvl K) (hW2 : (33, 2) ∈ xvl K) {k134 : xSt → Int32 → Int32 → Int32 → Int32 → Int32 → Int32 → Int32 → Int32 → Int32 → Int32 → Int32 → Int32 → Int32 → Int32 → Option xR} (hk134 : ∀ (S : xSt) (i1 : Int32) (i2 : Int32) (i3 : Int32) (i4 : Int32) (i5 : Int32) (i9 : Int32) (i10 : Int32) (i11 : Int32) (i12 : Int32) (i13 : Int32) (i14 : Int32) (i15 : Int32) (i16 : Int32) (i17 : Int32), k134 S i1 i2 i3 i4 i5 i9 i10 i11 i12 i13 i14 i15 i16 i17 = some out → xG K X S 134 [(0, xr K 6 0), (1, .int i1), (2, .int i2), (3, .int i3), (4, .int i4), (5, .int i5), (6, xr K 33 0), (7, xr K 33 1), (8, xr K 33 2), (9, .int i9), (10, .int i10), (11, .int i11), (12, .int i12), (13, .int i13), (14, .int i14), (15, .int i15), (16, .int i16), (17, .int i17)] []) : ∀ (n : Nat) (S : xSt) (i1 : Int32) (i2 : Int32) (i3 : Int32) (i4 : Int32) (i5 : Int32) (i9 : Int32) (i10 : Int32) (i11 : Int32) (i12 : Int32) (i13 : Int32) (i14 : Int32) (i15 : Int32) (i17 : Int32) (i20 : Int32) (i21 : Int32) (i22 : Int32) (h : fW_areCodes_L601  k134 n S i1 i2 i3 i4 i5 i9 i10 i11 i12 i13 i14 i15 i17 i20 i21 i22 = some out), xG K X S 601 [(0, xr K 6 0), (1, .int i1), (2, .int i2), (3, .int i3), (4, .int i4), (5, .int i5), (6, xr K 33 0), (7, xr K 33 1), (8, xr K 33 2), (9, .int i9), (10, .int i10), (11, .int i11), (12, .int i12), (13, .int i13), (14, .int i14), (15, .int i15), (17, .int i17), (20, .int i20), (21, .int i21), (22, .int i22)] [] := by
  intro n
  induction n with
  | zero => intro S i1 i2 i3 i4 i5 i9 i10 i11 i12 i13 i14 i15 i17 i20 i21 i22 h; cases h
  | succ n ih => intro S i1 i2 i3 i4 i5 i9 i10 i11 i12 i13 i14 i15 i17 i20 i21 i22 h; exact sbW_areCodes_L601 hX hM hR hV hW0 hW1 hW2 hk134 ih h
set_option maxRecDepth 100000 in
theorem sfW_areCodes_J590 {K0 K : xK} {ρ : xSt → xSt} {X : xX} {out : xR} {rc rs : Nat} (hX : xOK K X RL cL_areCodes 23) (hM : xMN K0 K ρ X (ρ out.1, out.2) (some .boolean) rc rs) (hR : xRm X 3 68) (hV : (6, 0) ∈ xvl K) (hW0 : (33, 0) ∈ xvl K) (hW1 : (33, 1) ∈ xvl K) (hW2 : (33, 2) ∈ xvl K) {k134 : xSt → Int32 → Int32 → Int32 → Int32 → Int32 → Int32 → Int32 → Int32 → Int32 → Int32 → Int32 → Int32 → Int32 → Int32 → Option xR} (hk134 : ∀ (S : xSt) (i1 : Int32) (i2 : Int32) (i3 : Int32) (i4 : Int32) (i5 : Int32) (i9 : Int32) (i10 : Int32) (i11 : Int32) (i12 : Int32) (i13 : Int32) (i14 : Int32) (i15 : Int32) (i16 : Int32) (i17 : Int32), k134 S i1 i2 i3 i4 i5 i9 i10 i11 i12 i13 i14 i15 i16 i17 = some out → xG K X S 134 [(0, xr K 6 0), (1, .int i1), (2, .int i2), (3, .int i3), (4, .int i4), (5, .int i5), (6, xr K 33 0), (7, xr K 33 1), (8, xr K 33 2), (9, .int i9), (10, .int i10), (11, .int i11), (12, .int i12), (13, .int i13), (14, .int i14), (15, .int i15), (16, .int i16), (17, .int i17)] []) {S : xSt} {i1 : Int32} {i2 : Int32} {i3 : Int32} {i4 : Int32} {i5 : Int32} {i9 : Int32} {i10 : Int32} {i11 : Int32} {i13 : Int32} {i14 : Int32} {i15 : Int32} {i17 : Int32} {k0 : Int32} (h : fW_areCodes_J590  k134 S i1 i2 i3 i4 i5 i9 i10 i11 i13 i14 i15 i17 k0 = some out) : xG K X S 590 [(0, xr K 6 0), (1, .int i1), (2, .int i2), (3, .int i3), (4, .int i4), (5, .int i5), (6, xr K 33 0), (7, xr K 33 1), (8, xr K 33 2), (9, .int i9), (10, .int i10), (11, .int i11), (13, .int i13), (14, .int i14), (15, .int i15), (17, .int i17)] [.int k0] := by
  unfold fW_areCodes_J590 at h
  refine g_istore (lv2 := [(12, .int k0), (0, xr K 6 0), (1, .int i1), (2, .int i2), (3, .int i3), (4, .int i4), (5, .int i5), (6, xr K 33 0), (7, xr K 33 1), (8, xr K 33 2), (9, .int i9), (10, .int i10), (11, .int i11), (13, .int i13), (14, .int i14), (15, .int i15), (17, .int i17)]) hX dL_areCodes_590 (by decide) rfl ?_
  refine g_iconst (v := (0 : Int32)) hX dL_areCodes_592 (by decide) ?_
  refine g_istore (lv2 := [(20, .int (0 : Int32)), (12, .int k0), (0, xr K 6 0), (1, .int i1), (2, .int i2), (3, .int i3), (4, .int i4), (5, .int i5), (6, xr K 33 0), (7, xr K 33 1), (8, xr K 33 2), (9, .int i9), (10, .int i10), (11, .int i11), (13, .int i13), (14, .int i14), (15, .int i15), (17, .int i17)]) hX dL_areCodes_593 (by decide) rfl ?_
  refine g_iconst (v := (0 : Int32)) hX dL_areCodes_595 (by decide) ?_
  refine g_istore (lv2 := [(21, .int (0 : Int32)), (20, .int (0 : Int32)), (12, .int k0), (0, xr K 6 0), (1, .int i1), (2, .int i2), (3, .int i3), (4, .int i4), (5, .int i5), (6, xr K 33 0), (7, xr K 33 1), (8, xr K 33 2), (9, .int i9), (10, .int i10), (11, .int i11), (13, .int i13), (14, .int i14), (15, .int i15), (17, .int i17)]) hX dL_areCodes_596 (by decide) rfl ?_
  refine g_iconst (v := (0 : Int32)) hX dL_areCodes_598 (by decide) ?_
  refine g_istore (lv2 := [(22, .int (0 : Int32)), (21, .int (0 : Int32)), (20, .int (0 : Int32)), (12, .int k0), (0, xr K 6 0), (1, .int i1), (2, .int i2), (3, .int i3), (4, .int i4), (5, .int i5), (6, xr K 33 0), (7, xr K 33 1), (8, xr K 33 2), (9, .int i9), (10, .int i10), (11, .int i11), (13, .int i13), (14, .int i14), (15, .int i15), (17, .int i17)]) hX dL_areCodes_599 (by decide) rfl ?_
  exact g_sub [4, 5, 6, 7, 8, 9, 10, 11, 12, 13, 14, 15, 3, 16, 17, 18, 19, 2, 1, 0] (by rfl) (sfW_areCodes_L601 hX hM hR hV hW0 hW1 hW2 hk134 _ _ _ _ _ _ _ _ _ _ _ _ _ _ _ _ _ _ h)
set_option maxRecDepth 100000 in
theorem sfW_areCodes_J574 {K0 K : xK} {ρ : xSt → xSt} {X : xX} {out : xR} {rc rs : Nat} (hX : xOK K X RL cL_areCodes 23) (hM : xMN K0 K ρ X (ρ out.1, out.2) (some .boolean) rc rs) (hR : xRm X 3 68) (hV : (6, 0) ∈ xvl K) (hW0 : (33, 0) ∈ xvl K) (hW1 : (33, 1) ∈ xvl K) (hW2 : (33, 2) ∈ xvl K) {k134 : xSt → Int32 → Int32 → Int32 → Int32 → Int32 → Int32 → Int32 → Int32 → Int32 → Int32 → Int32 → Int32 → Int32 → Int32 → Option xR} (hk134 : ∀ (S : xSt) (i1 : Int32) (i2 : Int32) (i3 : Int32) (i4 : Int32) (i5 : Int32) (i9 : Int32) (i10 : Int32) (i11 : Int32) (i12 : Int32) (i13 : Int32) (i14 : Int32) (i15 : Int32) (i16 : Int32) (i17 : Int32), k134 S i1 i2 i3 i4 i5 i9 i10 i11 i12 i13 i14 i15 i16 i17 = some out → xG K X S 134 [(0, xr K 6 0), (1, .int i1), (2, .int i2), (3, .int i3), (4, .int i4), (5, .int i5), (6, xr K 33 0), (7, xr K 33 1), (8, xr K 33 2), (9, .int i9), (10, .int i10), (11, .int i11), (12, .int i12), (13, .int i13), (14, .int i14), (15, .int i15), (16, .int i16), (17, .int i17)] []) {S : xSt} {i1 : Int32} {i2 : Int32} {i3 : Int32} {i4 : Int32} {i5 : Int32} {i9 : Int32} {i10 : Int32} {i11 : Int32} {i12 : Int32} {i13 : Int32} {i14 : Int32} {i17 : Int32} {i19 : Int32} {k0 : Int32} (h : fW_areCodes_J574  k134 S i1 i2 i3 i4 i5 i9 i10 i11 i12 i13 i14 i17 i19 k0 = some out) : xG K X S 574 [(0, xr K 6 0), (1, .int i1), (2, .int i2), (3, .int i3), (4, .int i4), (5, .int i5), (6, xr K 33 0), (7, xr K 33 1), (8, xr K 33 2), (9, .int i9), (10, .int i10), (11, .int i11), (12, .int i12), (13, .int i13), (14, .int i14), (17, .int i17), (19, .int i19)] [.int k0] := by
  unfold fW_areCodes_J574 at h
  refine g_istore (lv2 := [(15, .int k0), (0, xr K 6 0), (1, .int i1), (2, .int i2), (3, .int i3), (4, .int i4), (5, .int i5), (6, xr K 33 0), (7, xr K 33 1), (8, xr K 33 2), (9, .int i9), (10, .int i10), (11, .int i11), (12, .int i12), (13, .int i13), (14, .int i14), (17, .int i17), (19, .int i19)]) hX dL_areCodes_574 (by decide) rfl ?_
  refine g_iload hX dL_areCodes_576 17 rfl ?_
  refine g_if_eq hX 588 dL_areCodes_578 (by decide) (fun hc => ?_) (fun hc => ?_)
  · have h := xif_t hc h
    refine g_iload hX dL_areCodes_588 13 rfl ?_
    exact g_sub [1, 2, 3, 4, 5, 6, 7, 8, 9, 10, 11, 12, 14, 15, 0, 16] (by rfl) (sfW_areCodes_J590 hX hM hR hV hW0 hW1 hW2 hk134 h)
  · have h := xif_f hc h
    refine g_iload hX dL_areCodes_581 16 rfl ?_
    refine g_iconst (v := (1 : Int32)) hX dL_areCodes_583 (by decide) ?_
    refine g_iadd hX dL_areCodes_584 ?_
    refine g_goto hX 590 dL_areCodes_585 (by decide) ?_
    exact g_sub [1, 2, 3, 4, 5, 6, 7, 8, 9, 10, 11, 12, 14, 15, 0, 16] (by rfl) (sfW_areCodes_J590 hX hM hR hV hW0 hW1 hW2 hk134 h)
set_option maxRecDepth 100000 in
theorem sfW_areCodes_J572 {K0 K : xK} {ρ : xSt → xSt} {X : xX} {out : xR} {rc rs : Nat} (hX : xOK K X RL cL_areCodes 23) (hM : xMN K0 K ρ X (ρ out.1, out.2) (some .boolean) rc rs) (hR : xRm X 3 68) (hV : (6, 0) ∈ xvl K) (hW0 : (33, 0) ∈ xvl K) (hW1 : (33, 1) ∈ xvl K) (hW2 : (33, 2) ∈ xvl K) {k134 : xSt → Int32 → Int32 → Int32 → Int32 → Int32 → Int32 → Int32 → Int32 → Int32 → Int32 → Int32 → Int32 → Int32 → Int32 → Option xR} (hk134 : ∀ (S : xSt) (i1 : Int32) (i2 : Int32) (i3 : Int32) (i4 : Int32) (i5 : Int32) (i9 : Int32) (i10 : Int32) (i11 : Int32) (i12 : Int32) (i13 : Int32) (i14 : Int32) (i15 : Int32) (i16 : Int32) (i17 : Int32), k134 S i1 i2 i3 i4 i5 i9 i10 i11 i12 i13 i14 i15 i16 i17 = some out → xG K X S 134 [(0, xr K 6 0), (1, .int i1), (2, .int i2), (3, .int i3), (4, .int i4), (5, .int i5), (6, xr K 33 0), (7, xr K 33 1), (8, xr K 33 2), (9, .int i9), (10, .int i10), (11, .int i11), (12, .int i12), (13, .int i13), (14, .int i14), (15, .int i15), (16, .int i16), (17, .int i17)] []) {S : xSt} {i1 : Int32} {i2 : Int32} {i3 : Int32} {i4 : Int32} {i5 : Int32} {i9 : Int32} {i10 : Int32} {i11 : Int32} {i12 : Int32} {i13 : Int32} {i14 : Int32} {i15 : Int32} {i17 : Int32} {i19 : Int32} (h : fW_areCodes_J572  k134 S i1 i2 i3 i4 i5 i9 i10 i11 i12 i13 i14 i15 i17 i19 = some out) : xG K X S 572 [(0, xr K 6 0), (1, .int i1), (2, .int i2), (3, .int i3), (4, .int i4), (5, .int i5), (6, xr K 33 0), (7, xr K 33 1), (8, xr K 33 2), (9, .int i9), (10, .int i10), (11, .int i11), (12, .int i12), (13, .int i13), (14, .int i14), (15, .int i15), (17, .int i17), (19, .int i19)] [] := by
  unfold fW_areCodes_J572 at h
  refine g_iload hX dL_areCodes_572 15 rfl ?_
  exact g_sub [0, 1, 2, 3, 4, 5, 6, 7, 8, 9, 10, 11, 12, 13, 14, 16, 17] (by rfl) (sfW_areCodes_J574 hX hM hR hV hW0 hW1 hW2 hk134 h)
set_option maxRecDepth 100000 in
theorem sfW_areCodes_J542 {K0 K : xK} {ρ : xSt → xSt} {X : xX} {out : xR} {rc rs : Nat} (hX : xOK K X RL cL_areCodes 23) (hM : xMN K0 K ρ X (ρ out.1, out.2) (some .boolean) rc rs) (hR : xRm X 3 68) (hV : (6, 0) ∈ xvl K) (hW0 : (33, 0) ∈ xvl K) (hW1 : (33, 1) ∈ xvl K) (hW2 : (33, 2) ∈ xvl K) {k134 : xSt → Int32 → Int32 → Int32 → Int32 → Int32 → Int32 → Int32 → Int32 → Int32 → Int32 → Int32 → Int32 → Int32 → Int32 → Option xR} (hk134 : ∀ (S : xSt) (i1 : Int32) (i2 : Int32) (i3 : Int32) (i4 : Int32) (i5 : Int32) (i9 : Int32) (i10 : Int32) (i11 : Int32) (i12 : Int32) (i13 : Int32) (i14 : Int32) (i15 : Int32) (i16 : Int32) (i17 : Int32), k134 S i1 i2 i3 i4 i5 i9 i10 i11 i12 i13 i14 i15 i16 i17 = some out → xG K X S 134 [(0, xr K 6 0), (1, .int i1), (2, .int i2), (3, .int i3), (4, .int i4), (5, .int i5), (6, xr K 33 0), (7, xr K 33 1), (8, xr K 33 2), (9, .int i9), (10, .int i10), (11, .int i11), (12, .int i12), (13, .int i13), (14, .int i14), (15, .int i15), (16, .int i16), (17, .int i17)] []) {S : xSt} {i1 : Int32} {i2 : Int32} {i3 : Int32} {i4 : Int32} {i5 : Int32} {i9 : Int32} {i10 : Int32} {i12 : Int32} {i13 : Int32} {i14 : Int32} {i15 : Int32} {i17 : Int32} {i19 : Int32} {k0 : Int32} {k1 : Int32} (h : fW_areCodes_J542  k134 S i1 i2 i3 i4 i5 i9 i10 i12 i13 i14 i15 i17 i19 k0 k1 = some out) : xG K X S 542 [(0, xr K 6 0), (1, .int i1), (2, .int i2), (3, .int i3), (4, .int i4), (5, .int i5), (6, xr K 33 0), (7, xr K 33 1), (8, xr K 33 2), (9, .int i9), (10, .int i10), (12, .int i12), (13, .int i13), (14, .int i14), (15, .int i15), (17, .int i17), (19, .int i19)] [.int k0, .int k1] := by
  unfold fW_areCodes_J542 at h
  refine g_iadd hX dL_areCodes_542 ?_
  refine g_istore (lv2 := [(11, .int (k1 + k0)), (0, xr K 6 0), (1, .int i1), (2, .int i2), (3, .int i3), (4, .int i4), (5, .int i5), (6, xr K 33 0), (7, xr K 33 1), (8, xr K 33 2), (9, .int i9), (10, .int i10), (12, .int i12), (13, .int i13), (14, .int i14), (15, .int i15), (17, .int i17), (19, .int i19)]) hX dL_areCodes_543 (by decide) rfl ?_
  refine g_iload hX dL_areCodes_545 17 rfl ?_
  refine g_if_eq hX 572 dL_areCodes_547 (by decide) (fun hc => ?_) (fun hc => ?_)
  · have h := xif_t hc h
    exact g_sub [1, 2, 3, 4, 5, 6, 7, 8, 9, 10, 11, 0, 12, 13, 14, 15, 16, 17] (by rfl) (sfW_areCodes_J572 hX hM hR hV hW0 hW1 hW2 hk134 h)
  · have h := xif_f hc h
    refine g_aload hX dL_areCodes_550 9 rfl ?_
    refine g_iload hX dL_areCodes_552 16 rfl ?_
    obtain ⟨hbj1, h⟩ := xat_inv h
    refine g_iald (n := 64) hX hW2 rfl hbj1 dL_areCodes_554 ?_
    refine g_iconst (v := (1 : Int32)) hX dL_areCodes_555 (by decide) ?_
    refine g_iadd hX dL_areCodes_556 ?_
    refine g_iload hX dL_areCodes_557 15 rfl ?_
    refine g_icmp_le hX 572 dL_areCodes_559 (by decide) (fun hc => ?_) (fun hc => ?_)
    · have h := xif_t hc h
      exact g_sub [1, 2, 3, 4, 5, 6, 7, 8, 9, 10, 11, 0, 12, 13, 14, 15, 16, 17] (by rfl) (sfW_areCodes_J572 hX hM hR hV hW0 hW1 hW2 hk134 h)
    · have h := xif_f hc h
      refine g_aload hX dL_areCodes_562 9 rfl ?_
      refine g_iload hX dL_areCodes_564 16 rfl ?_
      obtain ⟨hbj2, h⟩ := xat_inv h
      refine g_iald (n := 64) hX hW2 rfl hbj2 dL_areCodes_566 ?_
      refine g_iconst (v := (1 : Int32)) hX dL_areCodes_567 (by decide) ?_
      refine g_iadd hX dL_areCodes_568 ?_
      refine g_goto hX 574 dL_areCodes_569 (by decide) ?_
      exact g_sub [1, 2, 3, 4, 5, 6, 7, 8, 9, 10, 11, 0, 12, 13, 14, 16, 17] (by rfl) (sfW_areCodes_J574 hX hM hR hV hW0 hW1 hW2 hk134 h)
set_option maxRecDepth 100000 in
theorem sfW_areCodes_J528 {K0 K : xK} {ρ : xSt → xSt} {X : xX} {out : xR} {rc rs : Nat} (hX : xOK K X RL cL_areCodes 23) (hM : xMN K0 K ρ X (ρ out.1, out.2) (some .boolean) rc rs) (hR : xRm X 3 68) (hV : (6, 0) ∈ xvl K) (hW0 : (33, 0) ∈ xvl K) (hW1 : (33, 1) ∈ xvl K) (hW2 : (33, 2) ∈ xvl K) {k134 : xSt → Int32 → Int32 → Int32 → Int32 → Int32 → Int32 → Int32 → Int32 → Int32 → Int32 → Int32 → Int32 → Int32 → Int32 → Option xR} (hk134 : ∀ (S : xSt) (i1 : Int32) (i2 : Int32) (i3 : Int32) (i4 : Int32) (i5 : Int32) (i9 : Int32) (i10 : Int32) (i11 : Int32) (i12 : Int32) (i13 : Int32) (i14 : Int32) (i15 : Int32) (i16 : Int32) (i17 : Int32), k134 S i1 i2 i3 i4 i5 i9 i10 i11 i12 i13 i14 i15 i16 i17 = some out → xG K X S 134 [(0, xr K 6 0), (1, .int i1), (2, .int i2), (3, .int i3), (4, .int i4), (5, .int i5), (6, xr K 33 0), (7, xr K 33 1), (8, xr K 33 2), (9, .int i9), (10, .int i10), (11, .int i11), (12, .int i12), (13, .int i13), (14, .int i14), (15, .int i15), (16, .int i16), (17, .int i17)] []) {S : xSt} {i1 : Int32} {i2 : Int32} {i3 : Int32} {i4 : Int32} {i5 : Int32} {i9 : Int32} {i10 : Int32} {i11 : Int32} {i12 : Int32} {i13 : Int32} {i14 : Int32} {i15 : Int32} {i17 : Int32} {k0 : Int32} (h : fW_areCodes_J528  k134 S i1 i2 i3 i4 i5 i9 i10 i11 i12 i13 i14 i15 i17 k0 = some out) : xG K X S 528 [(0, xr K 6 0), (1, .int i1), (2, .int i2), (3, .int i3), (4, .int i4), (5, .int i5), (6, xr K 33 0), (7, xr K 33 1), (8, xr K 33 2), (9, .int i9), (10, .int i10), (11, .int i11), (12, .int i12), (13, .int i13), (14, .int i14), (15, .int i15), (17, .int i17)] [.int k0] := by
  unfold fW_areCodes_J528 at h
  refine g_istore (lv2 := [(19, .int k0), (0, xr K 6 0), (1, .int i1), (2, .int i2), (3, .int i3), (4, .int i4), (5, .int i5), (6, xr K 33 0), (7, xr K 33 1), (8, xr K 33 2), (9, .int i9), (10, .int i10), (11, .int i11), (12, .int i12), (13, .int i13), (14, .int i14), (15, .int i15), (17, .int i17)]) hX dL_areCodes_528 (by decide) rfl ?_
  refine g_iload hX dL_areCodes_530 12 rfl ?_
  refine g_iload hX dL_areCodes_532 0 rfl ?_
  refine g_if_eq hX 541 dL_areCodes_534 (by decide) (fun hc => ?_) (fun hc => ?_)
  · have h := xif_t hc h
    refine g_iconst (v := (0 : Int32)) hX dL_areCodes_541 (by decide) ?_
    exact g_sub [1, 2, 3, 4, 5, 6, 7, 8, 9, 10, 11, 13, 14, 15, 16, 17, 0] (by rfl) (sfW_areCodes_J542 hX hM hR hV hW0 hW1 hW2 hk134 h)
  · have h := xif_f hc h
    refine g_iconst (v := (1 : Int32)) hX dL_areCodes_537 (by decide) ?_
    refine g_goto hX 542 dL_areCodes_538 (by decide) ?_
    exact g_sub [1, 2, 3, 4, 5, 6, 7, 8, 9, 10, 11, 13, 14, 15, 16, 17, 0] (by rfl) (sfW_areCodes_J542 hX hM hR hV hW0 hW1 hW2 hk134 h)
set_option maxRecDepth 100000 in
theorem sfW_areCodes_J501 {K0 K : xK} {ρ : xSt → xSt} {X : xX} {out : xR} {rc rs : Nat} (hX : xOK K X RL cL_areCodes 23) (hM : xMN K0 K ρ X (ρ out.1, out.2) (some .boolean) rc rs) (hR : xRm X 3 68) (hV : (6, 0) ∈ xvl K) (hW0 : (33, 0) ∈ xvl K) (hW1 : (33, 1) ∈ xvl K) (hW2 : (33, 2) ∈ xvl K) {k134 : xSt → Int32 → Int32 → Int32 → Int32 → Int32 → Int32 → Int32 → Int32 → Int32 → Int32 → Int32 → Int32 → Int32 → Int32 → Option xR} (hk134 : ∀ (S : xSt) (i1 : Int32) (i2 : Int32) (i3 : Int32) (i4 : Int32) (i5 : Int32) (i9 : Int32) (i10 : Int32) (i11 : Int32) (i12 : Int32) (i13 : Int32) (i14 : Int32) (i15 : Int32) (i16 : Int32) (i17 : Int32), k134 S i1 i2 i3 i4 i5 i9 i10 i11 i12 i13 i14 i15 i16 i17 = some out → xG K X S 134 [(0, xr K 6 0), (1, .int i1), (2, .int i2), (3, .int i3), (4, .int i4), (5, .int i5), (6, xr K 33 0), (7, xr K 33 1), (8, xr K 33 2), (9, .int i9), (10, .int i10), (11, .int i11), (12, .int i12), (13, .int i13), (14, .int i14), (15, .int i15), (16, .int i16), (17, .int i17)] []) {S : xSt} {i1 : Int32} {i2 : Int32} {i3 : Int32} {i4 : Int32} {i5 : Int32} {i9 : Int32} {i10 : Int32} {i11 : Int32} {i12 : Int32} {i13 : Int32} {i14 : Int32} {i15 : Int32} {i16 : Int32} {i17 : Int32} (h : fW_areCodes_J501  k134 S i1 i2 i3 i4 i5 i9 i10 i11 i12 i13 i14 i15 i16 i17 = some out) : xG K X S 501 [(0, xr K 6 0), (1, .int i1), (2, .int i2), (3, .int i3), (4, .int i4), (5, .int i5), (6, xr K 33 0), (7, xr K 33 1), (8, xr K 33 2), (9, .int i9), (10, .int i10), (11, .int i11), (12, .int i12), (13, .int i13), (14, .int i14), (15, .int i15), (16, .int i16), (17, .int i17)] [] := by
  unfold fW_areCodes_J501 at h
  refine g_iload hX dL_areCodes_501 9 rfl ?_
  refine g_aload hX dL_areCodes_503 8 rfl ?_
  refine g_iload hX dL_areCodes_505 17 rfl ?_
  obtain ⟨hbj1, h⟩ := xat_inv h
  refine g_iald (n := 64) hX hW2 rfl hbj1 dL_areCodes_507 ?_
  refine g_iadd hX dL_areCodes_508 ?_
  refine g_istore (lv2 := [(9, .int (i9 + (S 33 2 (i17).toNatClampNeg))), (0, xr K 6 0), (1, .int i1), (2, .int i2), (3, .int i3), (4, .int i4), (5, .int i5), (6, xr K 33 0), (7, xr K 33 1), (8, xr K 33 2), (10, .int i10), (11, .int i11), (12, .int i12), (13, .int i13), (14, .int i14), (15, .int i15), (16, .int i16), (17, .int i17)]) hX dL_areCodes_509 (by decide) rfl ?_
  refine g_iload hX dL_areCodes_511 0 rfl ?_
  refine g_iload_n hX dL_areCodes_513 rfl 3 rfl ?_
  refine g_icmp_ge hX 689 dL_areCodes_514 (by decide) (fun hc => ?_) (fun hc => ?_)
  · have h := xif_t hc h
    exact g_sub [1, 2, 3, 4, 5, 6, 7, 8, 9, 0, 10, 11, 12, 13, 14, 15, 16, 17] (by rfl) (sfW_areCodes_J689 hX hM hR hV hW0 hW1 hW2 hk134 h)
  · have h := xif_f hc h
    refine g_iload hX dL_areCodes_517 11 rfl ?_
    refine g_iload_n hX dL_areCodes_519 rfl 4 rfl ?_
    refine g_icmp_ge hX 527 dL_areCodes_520 (by decide) (fun hc => ?_) (fun hc => ?_)
    · have h := xif_t hc h
      refine g_iconst (v := (0 : Int32)) hX dL_areCodes_527 (by decide) ?_
      exact g_sub [1, 2, 3, 4, 5, 6, 7, 8, 9, 0, 10, 11, 12, 13, 14, 15, 17] (by rfl) (sfW_areCodes_J528 hX hM hR hV hW0 hW1 hW2 hk134 h)
    · have h := xif_f hc h
      refine g_iconst (v := (1 : Int32)) hX dL_areCodes_523 (by decide) ?_
      refine g_goto hX 528 dL_areCodes_524 (by decide) ?_
      exact g_sub [1, 2, 3, 4, 5, 6, 7, 8, 9, 0, 10, 11, 12, 13, 14, 15, 17] (by rfl) (sfW_areCodes_J528 hX hM hR hV hW0 hW1 hW2 hk134 h)
set_option maxRecDepth 100000 in
theorem sfW_areCodes_J495 {K0 K : xK} {ρ : xSt → xSt} {X : xX} {out : xR} {rc rs : Nat} (hX : xOK K X RL cL_areCodes 23) (hM : xMN K0 K ρ X (ρ out.1, out.2) (some .boolean) rc rs) (hR : xRm X 3 68) (hV : (6, 0) ∈ xvl K) (hW0 : (33, 0) ∈ xvl K) (hW1 : (33, 1) ∈ xvl K) (hW2 : (33, 2) ∈ xvl K) {k134 : xSt → Int32 → Int32 → Int32 → Int32 → Int32 → Int32 → Int32 → Int32 → Int32 → Int32 → Int32 → Int32 → Int32 → Int32 → Option xR} (hk134 : ∀ (S : xSt) (i1 : Int32) (i2 : Int32) (i3 : Int32) (i4 : Int32) (i5 : Int32) (i9 : Int32) (i10 : Int32) (i11 : Int32) (i12 : Int32) (i13 : Int32) (i14 : Int32) (i15 : Int32) (i16 : Int32) (i17 : Int32), k134 S i1 i2 i3 i4 i5 i9 i10 i11 i12 i13 i14 i15 i16 i17 = some out → xG K X S 134 [(0, xr K 6 0), (1, .int i1), (2, .int i2), (3, .int i3), (4, .int i4), (5, .int i5), (6, xr K 33 0), (7, xr K 33 1), (8, xr K 33 2), (9, .int i9), (10, .int i10), (11, .int i11), (12, .int i12), (13, .int i13), (14, .int i14), (15, .int i15), (16, .int i16), (17, .int i17)] []) {k430 : xSt → Int32 → Int32 → Int32 → Int32 → Int32 → Int32 → Int32 → Int32 → Int32 → Int32 → Int32 → Int32 → Int32 → Int32 → Int32 → Option xR} (hk430 : ∀ (S : xSt) (i1 : Int32) (i2 : Int32) (i3 : Int32) (i4 : Int32) (i5 : Int32) (i9 : Int32) (i10 : Int32) (i11 : Int32) (i12 : Int32) (i13 : Int32) (i14 : Int32) (i15 : Int32) (i16 : Int32) (i17 : Int32) (i19 : Int32), k430 S i1 i2 i3 i4 i5 i9 i10 i11 i12 i13 i14 i15 i16 i17 i19 = some out → xG K X S 430 [(0, xr K 6 0), (1, .int i1), (2, .int i2), (3, .int i3), (4, .int i4), (5, .int i5), (6, xr K 33 0), (7, xr K 33 1), (8, xr K 33 2), (9, .int i9), (10, .int i10), (11, .int i11), (12, .int i12), (13, .int i13), (14, .int i14), (15, .int i15), (16, .int i16), (17, .int i17), (19, .int i19)] []) {S : xSt} {i1 : Int32} {i2 : Int32} {i3 : Int32} {i4 : Int32} {i5 : Int32} {i9 : Int32} {i10 : Int32} {i11 : Int32} {i12 : Int32} {i13 : Int32} {i14 : Int32} {i15 : Int32} {i16 : Int32} {i17 : Int32} {i19 : Int32} (h : fW_areCodes_J495  k134 k430 S i1 i2 i3 i4 i5 i9 i10 i11 i12 i13 i14 i15 i16 i17 i19 = some out) : xG K X S 495 [(0, xr K 6 0), (1, .int i1), (2, .int i2), (3, .int i3), (4, .int i4), (5, .int i5), (6, xr K 33 0), (7, xr K 33 1), (8, xr K 33 2), (9, .int i9), (10, .int i10), (11, .int i11), (12, .int i12), (13, .int i13), (14, .int i14), (15, .int i15), (16, .int i16), (17, .int i17), (19, .int i19)] [] := by
  unfold fW_areCodes_J495 at h
  refine g_iinc (v := (i19 + (1 : Int32))) (lv2 := [(19, .int (i19 + (1 : Int32))), (0, xr K 6 0), (1, .int i1), (2, .int i2), (3, .int i3), (4, .int i4), (5, .int i5), (6, xr K 33 0), (7, xr K 33 1), (8, xr K 33 2), (9, .int i9), (10, .int i10), (11, .int i11), (12, .int i12), (13, .int i13), (14, .int i14), (15, .int i15), (16, .int i16), (17, .int i17)]) hX dL_areCodes_495 18 rfl rfl (by decide) rfl ?_
  refine g_goto hX 430 dL_areCodes_498 (by decide) ?_
  exact g_sub [1, 2, 3, 4, 5, 6, 7, 8, 9, 10, 11, 12, 13, 14, 15, 16, 17, 18, 0] (by rfl) (hk430 _ _ _ _ _ _ _ _ _ _ _ _ _ _ _ _ h)
set_option maxRecDepth 100000 in
theorem sbW_areCodes_L430 {K0 K : xK} {ρ : xSt → xSt} {X : xX} {out : xR} {rc rs : Nat} (hX : xOK K X RL cL_areCodes 23) (hM : xMN K0 K ρ X (ρ out.1, out.2) (some .boolean) rc rs) (hR : xRm X 3 68) (hV : (6, 0) ∈ xvl K) (hW0 : (33, 0) ∈ xvl K) (hW1 : (33, 1) ∈ xvl K) (hW2 : (33, 2) ∈ xvl K) {k134 : xSt → Int32 → Int32 → Int32 → Int32 → Int32 → Int32 → Int32 → Int32 → Int32 → Int32 → Int32 → Int32 → Int32 → Int32 → Option xR} (hk134 : ∀ (S : xSt) (i1 : Int32) (i2 : Int32) (i3 : Int32) (i4 : Int32) (i5 : Int32) (i9 : Int32) (i10 : Int32) (i11 : Int32) (i12 : Int32) (i13 : Int32) (i14 : Int32) (i15 : Int32) (i16 : Int32) (i17 : Int32), k134 S i1 i2 i3 i4 i5 i9 i10 i11 i12 i13 i14 i15 i16 i17 = some out → xG K X S 134 [(0, xr K 6 0), (1, .int i1), (2, .int i2), (3, .int i3), (4, .int i4), (5, .int i5), (6, xr K 33 0), (7, xr K 33 1), (8, xr K 33 2), (9, .int i9), (10, .int i10), (11, .int i11), (12, .int i12), (13, .int i13), (14, .int i14), (15, .int i15), (16, .int i16), (17, .int i17)] []) {k430 : xSt → Int32 → Int32 → Int32 → Int32 → Int32 → Int32 → Int32 → Int32 → Int32 → Int32 → Int32 → Int32 → Int32 → Int32 → Int32 → Option xR} (hk430 : ∀ (S : xSt) (i1 : Int32) (i2 : Int32) (i3 : Int32) (i4 : Int32) (i5 : Int32) (i9 : Int32) (i10 : Int32) (i11 : Int32) (i12 : Int32) (i13 : Int32) (i14 : Int32) (i15 : Int32) (i16 : Int32) (i17 : Int32) (i19 : Int32), k430 S i1 i2 i3 i4 i5 i9 i10 i11 i12 i13 i14 i15 i16 i17 i19 = some out → xG K X S 430 [(0, xr K 6 0), (1, .int i1), (2, .int i2), (3, .int i3), (4, .int i4), (5, .int i5), (6, xr K 33 0), (7, xr K 33 1), (8, xr K 33 2), (9, .int i9), (10, .int i10), (11, .int i11), (12, .int i12), (13, .int i13), (14, .int i14), (15, .int i15), (16, .int i16), (17, .int i17), (19, .int i19)] []) {S : xSt} {i1 : Int32} {i2 : Int32} {i3 : Int32} {i4 : Int32} {i5 : Int32} {i9 : Int32} {i10 : Int32} {i11 : Int32} {i12 : Int32} {i13 : Int32} {i14 : Int32} {i15 : Int32} {i16 : Int32} {i17 : Int32} {i19 : Int32} (h : bW_areCodes_L430  k134 k430 S i1 i2 i3 i4 i5 i9 i10 i11 i12 i13 i14 i15 i16 i17 i19 = some out) : xG K X S 430 [(0, xr K 6 0), (1, .int i1), (2, .int i2), (3, .int i3), (4, .int i4), (5, .int i5), (6, xr K 33 0), (7, xr K 33 1), (8, xr K 33 2), (9, .int i9), (10, .int i10), (11, .int i11), (12, .int i12), (13, .int i13), (14, .int i14), (15, .int i15), (16, .int i16), (17, .int i17), (19, .int i19)] [] := by
  unfold bW_areCodes_L430 at h
  refine g_iload hX dL_areCodes_430 18 rfl ?_
  refine g_iload hX dL_areCodes_432 11 rfl ?_
  refine g_icmp_ge hX 501 dL_areCodes_434 (by decide) (fun hc => ?_) (fun hc => ?_)
  · have h := xif_t hc h
    exact g_sub [0, 1, 2, 3, 4, 5, 6, 7, 8, 9, 10, 11, 12, 13, 14, 15, 16, 17] (by rfl) (sfW_areCodes_J501 hX hM hR hV hW0 hW1 hW2 hk134 h)
  · have h := xif_f hc h
    refine g_aload hX dL_areCodes_437 8 rfl ?_
    refine g_iload hX dL_areCodes_439 10 rfl ?_
    refine g_iload hX dL_areCodes_441 18 rfl ?_
    refine g_iadd hX dL_areCodes_443 ?_
    refine g_bipush (v := (10 : Int32)) hX dL_areCodes_444 (by decide) ?_
    refine g_isub hX dL_areCodes_446 ?_
    obtain ⟨hbj1, h⟩ := xat_inv h
    refine g_iald (n := 64) hX hW2 rfl hbj1 dL_areCodes_447 ?_
    refine g_iconst (v := (1 : Int32)) hX dL_areCodes_448 (by decide) ?_
    refine g_iadd hX dL_areCodes_449 ?_
    refine g_istore (lv2 := [(20, .int ((S 33 2 (((i10 + i19) - (10 : Int32))).toNatClampNeg) + (1 : Int32))), (0, xr K 6 0), (1, .int i1), (2, .int i2), (3, .int i3), (4, .int i4), (5, .int i5), (6, xr K 33 0), (7, xr K 33 1), (8, xr K 33 2), (9, .int i9), (10, .int i10), (11, .int i11), (12, .int i12), (13, .int i13), (14, .int i14), (15, .int i15), (16, .int i16), (17, .int i17), (19, .int i19)]) hX dL_areCodes_450 (by decide) rfl ?_
    refine g_iload hX dL_areCodes_452 0 rfl ?_
    refine g_aload hX dL_areCodes_454 9 rfl ?_
    refine g_iload hX dL_areCodes_456 18 rfl ?_
    obtain ⟨hbj2, h⟩ := xat_inv h
    refine g_iald (n := 64) hX hW2 rfl hbj2 dL_areCodes_458 ?_
    refine g_icmp_le hX 495 dL_areCodes_459 (by decide) (fun hc => ?_) (fun hc => ?_)
    · have h := xif_t hc h
      exact g_sub [1, 2, 3, 4, 5, 6, 7, 8, 9, 10, 11, 12, 13, 14, 15, 16, 17, 18, 19] (by rfl) (sfW_areCodes_J495 hX hM hR hV hW0 hW1 hW2 hk134 hk430 h)
    · have h := xif_f hc h
      refine g_iload hX dL_areCodes_462 10 rfl ?_
      refine g_iload hX dL_areCodes_464 0 rfl ?_
      refine g_iadd hX dL_areCodes_466 ?_
      refine g_iload_n hX dL_areCodes_467 rfl 3 rfl ?_
      refine g_icmp_gt hX 495 dL_areCodes_468 (by decide) (fun hc => ?_) (fun hc => ?_)
      · have h := xif_t hc h
        exact g_sub [1, 2, 3, 4, 5, 6, 7, 8, 9, 10, 11, 12, 13, 14, 15, 16, 17, 18, 19] (by rfl) (sfW_areCodes_J495 hX hM hR hV hW0 hW1 hW2 hk134 hk430 h)
      · have h := xif_f hc h
        refine g_aload_n hX dL_areCodes_471 rfl 1 rfl ?_
        refine g_iload hX dL_areCodes_472 10 rfl ?_
        refine g_aload hX dL_areCodes_474 8 rfl ?_
        refine g_iload hX dL_areCodes_476 11 rfl ?_
        refine g_iload hX dL_areCodes_478 19 rfl ?_
        refine g_iadd hX dL_areCodes_480 ?_
        refine g_bipush (v := (10 : Int32)) hX dL_areCodes_481 (by decide) ?_
        refine g_isub hX dL_areCodes_483 ?_
        obtain ⟨hbj3, h⟩ := xat_inv h
        refine g_iald (n := 64) hX hW1 rfl hbj3 dL_areCodes_484 ?_
        refine g_iload hX dL_areCodes_485 0 rfl ?_
        obtain ⟨S4, r5, hcS4, h⟩ := xbI_inv h
        refine g_callS hX hR (fun l => cW_isAlike (l := l) hX.vc hV hcS4) xc9_26 rfl ⟨by decide, by decide⟩ rfl rfl (Nat.le_of_ble_eq_true rfl) dL_areCodes_487 ?_
        refine g_if_eq hX 495 dL_areCodes_490 (by decide) (fun hc => ?_) (fun hc => ?_)
        · have h := xif_t hc h
          exact g_sub [1, 2, 3, 4, 5, 6, 7, 8, 9, 10, 11, 12, 13, 14, 15, 16, 17, 18, 19] (by rfl) (sfW_areCodes_J495 hX hM hR hV hW0 hW1 hW2 hk134 hk430 h)
        · have h := xif_f hc h
          refine g_iconst (v := (0 : Int32)) hX dL_areCodes_493 (by decide) ?_
          obtain ⟨hz, h⟩ := xne_inv h
          exact g_zretN hX hM hz (by rw [← Option.some.inj h]) dL_areCodes_494
theorem sfW_areCodes_L430 {K0 K : xK} {ρ : xSt → xSt} {X : xX} {out : xR} {rc rs : Nat} (hX : xOK K X RL cL_areCodes 23) (hM : xMN K0 K ρ X (ρ out.1, out.2) (some .boolean) rc rs) (hR : xRm X 3 68) (hV : (6, 0) ∈ xvl K) (hW0 : (33, 0) ∈ xvl K) (hW1 : (33, 1) ∈ xvl K) (hW2 : (33, 2) ∈ xvl K) {k134 : xSt → Int32 → Int32 → Int32 → Int32 → Int32 → Int32 → Int32 → Int32 → Int32 → Int32 → Int32 → Int32 → Int32 → Int32 → Option xR} (hk134 : ∀ (S : xSt) (i1 : Int32) (i2 : Int32) (i3 : Int32) (i4 : Int32) (i5 : Int32) (i9 : Int32) (i10 : Int32) (i11 : Int32) (i12 : Int32) (i13 : Int32) (i14 : Int32) (i15 : Int32) (i16 : Int32) (i17 : Int32), k134 S i1 i2 i3 i4 i5 i9 i10 i11 i12 i13 i14 i15 i16 i17 = some out → xG K X S 134 [(0, xr K 6 0), (1, .int i1), (2, .int i2), (3, .int i3), (4, .int i4), (5, .int i5), (6, xr K 33 0), (7, xr K 33 1), (8, xr K 33 2), (9, .int i9), (10, .int i10), (11, .int i11), (12, .int i12), (13, .int i13), (14, .int i14), (15, .int i15), (16, .int i16), (17, .int i17)] []) : ∀ (n : Nat) (S : xSt) (i1 : Int32) (i2 : Int32) (i3 : Int32) (i4 : Int32) (i5 : Int32) (i9 : Int32) (i10 : Int32) (i11 : Int32) (i12 : Int32) (i13 : Int32) (i14 : Int32) (i15 : Int32) (i16 : Int32) (i17 : Int32) (i19 : Int32) (h : fW_areCodes_L430  k134 n S i1 i2 i3 i4 i5 i9 i10 i11 i12 i13 i14 i15 i16 i17 i19 = some out), xG K X S 430 [(0, xr K 6 0), (1, .int i1), (2, .int i2), (3, .int i3), (4, .int i4), (5, .int i5), (6, xr K 33 0), (7, xr K 33 1), (8, xr K 33 2), (9, .int i9), (10, .int i10), (11, .int i11), (12, .int i12), (13, .int i13), (14, .int i14), (15, .int i15), (16, .int i16), (17, .int i17), (19, .int i19)] [] := by
  intro n
  induction n with
  | zero => intro S i1 i2 i3 i4 i5 i9 i10 i11 i12 i13 i14 i15 i16 i17 i19 h; cases h
  | succ n ih => intro S i1 i2 i3 i4 i5 i9 i10 i11 i12 i13 i14 i15 i16 i17 i19 h; exact sbW_areCodes_L430 hX hM hR hV hW0 hW1 hW2 hk134 ih h
set_option maxRecDepth 100000 in
theorem sfW_areCodes_J426 {K0 K : xK} {ρ : xSt → xSt} {X : xX} {out : xR} {rc rs : Nat} (hX : xOK K X RL cL_areCodes 23) (hM : xMN K0 K ρ X (ρ out.1, out.2) (some .boolean) rc rs) (hR : xRm X 3 68) (hV : (6, 0) ∈ xvl K) (hW0 : (33, 0) ∈ xvl K) (hW1 : (33, 1) ∈ xvl K) (hW2 : (33, 2) ∈ xvl K) {k134 : xSt → Int32 → Int32 → Int32 → Int32 → Int32 → Int32 → Int32 → Int32 → Int32 → Int32 → Int32 → Int32 → Int32 → Int32 → Option xR} (hk134 : ∀ (S : xSt) (i1 : Int32) (i2 : Int32) (i3 : Int32) (i4 : Int32) (i5 : Int32) (i9 : Int32) (i10 : Int32) (i11 : Int32) (i12 : Int32) (i13 : Int32) (i14 : Int32) (i15 : Int32) (i16 : Int32) (i17 : Int32), k134 S i1 i2 i3 i4 i5 i9 i10 i11 i12 i13 i14 i15 i16 i17 = some out → xG K X S 134 [(0, xr K 6 0), (1, .int i1), (2, .int i2), (3, .int i3), (4, .int i4), (5, .int i5), (6, xr K 33 0), (7, xr K 33 1), (8, xr K 33 2), (9, .int i9), (10, .int i10), (11, .int i11), (12, .int i12), (13, .int i13), (14, .int i14), (15, .int i15), (16, .int i16), (17, .int i17)] []) {S : xSt} {i1 : Int32} {i2 : Int32} {i3 : Int32} {i4 : Int32} {i5 : Int32} {i9 : Int32} {i10 : Int32} {i11 : Int32} {i12 : Int32} {i13 : Int32} {i14 : Int32} {i15 : Int32} {i16 : Int32} {i17 : Int32} (h : fW_areCodes_J426  k134 S i1 i2 i3 i4 i5 i9 i10 i11 i12 i13 i14 i15 i16 i17 = some out) : xG K X S 426 [(0, xr K 6 0), (1, .int i1), (2, .int i2), (3, .int i3), (4, .int i4), (5, .int i5), (6, xr K 33 0), (7, xr K 33 1), (8, xr K 33 2), (9, .int i9), (10, .int i10), (11, .int i11), (12, .int i12), (13, .int i13), (14, .int i14), (15, .int i15), (16, .int i16), (17, .int i17)] [] := by
  unfold fW_areCodes_J426 at h
  refine g_bipush (v := (10 : Int32)) hX dL_areCodes_426 (by decide) ?_
  refine g_istore (lv2 := [(19, .int (10 : Int32)), (0, xr K 6 0), (1, .int i1), (2, .int i2), (3, .int i3), (4, .int i4), (5, .int i5), (6, xr K 33 0), (7, xr K 33 1), (8, xr K 33 2), (9, .int i9), (10, .int i10), (11, .int i11), (12, .int i12), (13, .int i13), (14, .int i14), (15, .int i15), (16, .int i16), (17, .int i17)]) hX dL_areCodes_428 (by decide) rfl ?_
  exact g_sub [1, 2, 3, 4, 5, 6, 7, 8, 9, 10, 11, 12, 13, 14, 15, 16, 17, 18, 0] (by rfl) (sfW_areCodes_L430 hX hM hR hV hW0 hW1 hW2 hk134 _ _ _ _ _ _ _ _ _ _ _ _ _ _ _ _ _ h)
set_option maxRecDepth 100000 in
theorem sfW_areCodes_J371 {K0 K : xK} {ρ : xSt → xSt} {X : xX} {out : xR} {rc rs : Nat} (hX : xOK K X RL cL_areCodes 23) (hM : xMN K0 K ρ X (ρ out.1, out.2) (some .boolean) rc rs) (hR : xRm X 3 68) (hV : (6, 0) ∈ xvl K) (hW0 : (33, 0) ∈ xvl K) (hW1 : (33, 1) ∈ xvl K) (hW2 : (33, 2) ∈ xvl K) {k134 : xSt → Int32 → Int32 → Int32 → Int32 → Int32 → Int32 → Int32 → Int32 → Int32 → Int32 → Int32 → Int32 → Int32 → Int32 → Option xR} (hk134 : ∀ (S : xSt) (i1 : Int32) (i2 : Int32) (i3 : Int32) (i4 : Int32) (i5 : Int32) (i9 : Int32) (i10 : Int32) (i11 : Int32) (i12 : Int32) (i13 : Int32) (i14 : Int32) (i15 : Int32) (i16 : Int32) (i17 : Int32), k134 S i1 i2 i3 i4 i5 i9 i10 i11 i12 i13 i14 i15 i16 i17 = some out → xG K X S 134 [(0, xr K 6 0), (1, .int i1), (2, .int i2), (3, .int i3), (4, .int i4), (5, .int i5), (6, xr K 33 0), (7, xr K 33 1), (8, xr K 33 2), (9, .int i9), (10, .int i10), (11, .int i11), (12, .int i12), (13, .int i13), (14, .int i14), (15, .int i15), (16, .int i16), (17, .int i17)] []) {S : xSt} {i1 : Int32} {i2 : Int32} {i3 : Int32} {i4 : Int32} {i5 : Int32} {i9 : Int32} {i10 : Int32} {i11 : Int32} {i12 : Int32} {i13 : Int32} {i14 : Int32} {i15 : Int32} {i16 : Int32} {i17 : Int32} {i18 : Int32} (h : fW_areCodes_J371  k134 S i1 i2 i3 i4 i5 i9 i10 i11 i12 i13 i14 i15 i16 i17 i18 = some out) : xG K X S 371 [(0, xr K 6 0), (1, .int i1), (2, .int i2), (3, .int i3), (4, .int i4), (5, .int i5), (6, xr K 33 0), (7, xr K 33 1), (8, xr K 33 2), (9, .int i9), (10, .int i10), (11, .int i11), (12, .int i12), (13, .int i13), (14, .int i14), (15, .int i15), (16, .int i16), (17, .int i17), (18, .int i18)] [] := by
  unfold fW_areCodes_J371 at h
  refine g_iload hX dL_areCodes_371 18 rfl ?_
  refine g_bipush (v := (10 : Int32)) hX dL_areCodes_373 (by decide) ?_
  refine g_icmp_lt hX 426 dL_areCodes_375 (by decide) (fun hc => ?_) (fun hc => ?_)
  · have h := xif_t hc h
    exact g_sub [0, 1, 2, 3, 4, 5, 6, 7, 8, 9, 10, 11, 12, 13, 14, 15, 16, 17] (by rfl) (sfW_areCodes_J426 hX hM hR hV hW0 hW1 hW2 hk134 h)
  · have h := xif_f hc h
    refine g_aload hX dL_areCodes_378 8 rfl ?_
    refine g_iload hX dL_areCodes_380 17 rfl ?_
    obtain ⟨hbj1, h⟩ := xat_inv h
    refine g_iald (n := 64) hX hW2 rfl hbj1 dL_areCodes_382 ?_
    refine g_aload hX dL_areCodes_383 8 rfl ?_
    refine g_iload hX dL_areCodes_385 10 rfl ?_
    refine g_iload hX dL_areCodes_387 18 rfl ?_
    refine g_iadd hX dL_areCodes_389 ?_
    refine g_bipush (v := (10 : Int32)) hX dL_areCodes_390 (by decide) ?_
    refine g_isub hX dL_areCodes_392 ?_
    obtain ⟨hbj2, h⟩ := xat_inv h
    refine g_iald (n := 64) hX hW2 rfl hbj2 dL_areCodes_393 ?_
    refine g_iconst (v := (1 : Int32)) hX dL_areCodes_394 (by decide) ?_
    refine g_iadd hX dL_areCodes_395 ?_
    refine g_icmp_ne hX 424 dL_areCodes_396 (by decide) (fun hc => ?_) (fun hc => ?_)
    · have h := xif_f hc h
      refine g_iconst (v := (0 : Int32)) hX dL_areCodes_424 (by decide) ?_
      obtain ⟨hz, h⟩ := xne_inv h
      exact g_zretN hX hM hz (by rw [← Option.some.inj h]) dL_areCodes_425
    · have h := xif_t hc h
      refine g_aload_n hX dL_areCodes_399 rfl 0 rfl ?_
      refine g_iload hX dL_areCodes_400 9 rfl ?_
      refine g_aload hX dL_areCodes_402 7 rfl ?_
      refine g_iload hX dL_areCodes_404 10 rfl ?_
      refine g_iload hX dL_areCodes_406 18 rfl ?_
      refine g_iadd hX dL_areCodes_408 ?_
      refine g_bipush (v := (10 : Int32)) hX dL_areCodes_409 (by decide) ?_
      refine g_isub hX dL_areCodes_411 ?_
      obtain ⟨hbj3, h⟩ := xat_inv h
      refine g_iald (n := 64) hX hW1 rfl hbj3 dL_areCodes_412 ?_
      refine g_aload hX dL_areCodes_413 8 rfl ?_
      refine g_iload hX dL_areCodes_415 17 rfl ?_
      obtain ⟨hbj4, h⟩ := xat_inv h
      refine g_iald (n := 64) hX hW2 rfl hbj4 dL_areCodes_417 ?_
      obtain ⟨S5, r6, hcS5, h⟩ := xbI_inv h
      refine g_callS hX hR (fun l => cW_isAlike (l := l) hX.vc hV hcS5) xc9_26 rfl ⟨by decide, by decide⟩ rfl rfl (Nat.le_of_ble_eq_true rfl) dL_areCodes_418 ?_
      refine g_if_ne hX 426 dL_areCodes_421 (by decide) (fun hc => ?_) (fun hc => ?_)
      · have h := xif_f hc h
        exact g_sub [0, 1, 2, 3, 4, 5, 6, 7, 8, 9, 10, 11, 12, 13, 14, 15, 16, 17] (by rfl) (sfW_areCodes_J426 hX hM hR hV hW0 hW1 hW2 hk134 h)
      · have h := xif_t hc h
        refine g_iconst (v := (0 : Int32)) hX dL_areCodes_424 (by decide) ?_
        obtain ⟨hz, h⟩ := xne_inv h
        exact g_zretN hX hM hz (by rw [← Option.some.inj h]) dL_areCodes_425
set_option maxRecDepth 100000 in
theorem sfW_areCodes_J348 {K0 K : xK} {ρ : xSt → xSt} {X : xX} {out : xR} {rc rs : Nat} (hX : xOK K X RL cL_areCodes 23) (hM : xMN K0 K ρ X (ρ out.1, out.2) (some .boolean) rc rs) (hR : xRm X 3 68) (hV : (6, 0) ∈ xvl K) (hW0 : (33, 0) ∈ xvl K) (hW1 : (33, 1) ∈ xvl K) (hW2 : (33, 2) ∈ xvl K) {k134 : xSt → Int32 → Int32 → Int32 → Int32 → Int32 → Int32 → Int32 → Int32 → Int32 → Int32 → Int32 → Int32 → Int32 → Int32 → Option xR} (hk134 : ∀ (S : xSt) (i1 : Int32) (i2 : Int32) (i3 : Int32) (i4 : Int32) (i5 : Int32) (i9 : Int32) (i10 : Int32) (i11 : Int32) (i12 : Int32) (i13 : Int32) (i14 : Int32) (i15 : Int32) (i16 : Int32) (i17 : Int32), k134 S i1 i2 i3 i4 i5 i9 i10 i11 i12 i13 i14 i15 i16 i17 = some out → xG K X S 134 [(0, xr K 6 0), (1, .int i1), (2, .int i2), (3, .int i3), (4, .int i4), (5, .int i5), (6, xr K 33 0), (7, xr K 33 1), (8, xr K 33 2), (9, .int i9), (10, .int i10), (11, .int i11), (12, .int i12), (13, .int i13), (14, .int i14), (15, .int i15), (16, .int i16), (17, .int i17)] []) {S : xSt} {i1 : Int32} {i2 : Int32} {i3 : Int32} {i4 : Int32} {i5 : Int32} {i9 : Int32} {i10 : Int32} {i11 : Int32} {i12 : Int32} {i13 : Int32} {i14 : Int32} {i15 : Int32} {i16 : Int32} {i17 : Int32} {i18 : Int32} {k0 : Int32} {k1 : Int32} (h : fW_areCodes_J348  k134 S i1 i2 i3 i4 i5 i9 i10 i11 i12 i13 i14 i15 i16 i17 i18 k0 k1 = some out) : xG K X S 348 [(0, xr K 6 0), (1, .int i1), (2, .int i2), (3, .int i3), (4, .int i4), (5, .int i5), (6, xr K 33 0), (7, xr K 33 1), (8, xr K 33 2), (9, .int i9), (10, .int i10), (11, .int i11), (12, .int i12), (13, .int i13), (14, .int i14), (15, .int i15), (16, .int i16), (17, .int i17), (18, .int i18)] [.int k0, .int k1] := by
  unfold fW_areCodes_J348 at h
  refine g_icmp_ne hX 369 dL_areCodes_348 (by decide) (fun hc => ?_) (fun hc => ?_)
  · have h := xif_f hc h
    refine g_iconst (v := (0 : Int32)) hX dL_areCodes_369 (by decide) ?_
    obtain ⟨hz, h⟩ := xne_inv h
    exact g_zretN hX hM hz (by rw [← Option.some.inj h]) dL_areCodes_370
  · have h := xif_t hc h
    refine g_iload hX dL_areCodes_351 18 rfl ?_
    refine g_bipush (v := (8 : Int32)) hX dL_areCodes_353 (by decide) ?_
    refine g_icmp_ge hX 371 dL_areCodes_355 (by decide) (fun hc => ?_) (fun hc => ?_)
    · have h := xif_t hc h
      exact sfW_areCodes_J371 hX hM hR hV hW0 hW1 hW2 hk134 h
    · have h := xif_f hc h
      refine g_iload hX dL_areCodes_358 18 rfl ?_
      refine g_aload_n hX dL_areCodes_360 rfl 0 rfl ?_
      refine g_iload hX dL_areCodes_361 9 rfl ?_
      obtain ⟨S1, r2, hcS1, h⟩ := xbI_inv h
      refine g_callV hX hR hV (fun l => c6_sign (l := l) hX.vc hV hcS1) xc9_14 rfl ⟨by decide, by decide⟩ rfl rfl (Nat.le_of_ble_eq_true rfl) dL_areCodes_363 ?_
      refine g_icmp_eq hX 371 dL_areCodes_366 (by decide) (fun hc => ?_) (fun hc => ?_)
      · have h := xif_t hc h
        exact sfW_areCodes_J371 hX hM hR hV hW0 hW1 hW2 hk134 h
      · have h := xif_f hc h
        refine g_iconst (v := (0 : Int32)) hX dL_areCodes_369 (by decide) ?_
        obtain ⟨hz, h⟩ := xne_inv h
        exact g_zretN hX hM hz (by rw [← Option.some.inj h]) dL_areCodes_370
set_option maxRecDepth 100000 in
theorem sfW_areCodes_J334 {K0 K : xK} {ρ : xSt → xSt} {X : xX} {out : xR} {rc rs : Nat} (hX : xOK K X RL cL_areCodes 23) (hM : xMN K0 K ρ X (ρ out.1, out.2) (some .boolean) rc rs) (hR : xRm X 3 68) (hV : (6, 0) ∈ xvl K) (hW0 : (33, 0) ∈ xvl K) (hW1 : (33, 1) ∈ xvl K) (hW2 : (33, 2) ∈ xvl K) {k134 : xSt → Int32 → Int32 → Int32 → Int32 → Int32 → Int32 → Int32 → Int32 → Int32 → Int32 → Int32 → Int32 → Int32 → Int32 → Option xR} (hk134 : ∀ (S : xSt) (i1 : Int32) (i2 : Int32) (i3 : Int32) (i4 : Int32) (i5 : Int32) (i9 : Int32) (i10 : Int32) (i11 : Int32) (i12 : Int32) (i13 : Int32) (i14 : Int32) (i15 : Int32) (i16 : Int32) (i17 : Int32), k134 S i1 i2 i3 i4 i5 i9 i10 i11 i12 i13 i14 i15 i16 i17 = some out → xG K X S 134 [(0, xr K 6 0), (1, .int i1), (2, .int i2), (3, .int i3), (4, .int i4), (5, .int i5), (6, xr K 33 0), (7, xr K 33 1), (8, xr K 33 2), (9, .int i9), (10, .int i10), (11, .int i11), (12, .int i12), (13, .int i13), (14, .int i14), (15, .int i15), (16, .int i16), (17, .int i17)] []) {S : xSt} {i1 : Int32} {i2 : Int32} {i3 : Int32} {i4 : Int32} {i5 : Int32} {i9 : Int32} {i10 : Int32} {i11 : Int32} {i12 : Int32} {i13 : Int32} {i14 : Int32} {i15 : Int32} {i16 : Int32} {i17 : Int32} {i18 : Int32} {k0 : Int32} (h : fW_areCodes_J334  k134 S i1 i2 i3 i4 i5 i9 i10 i11 i12 i13 i14 i15 i16 i17 i18 k0 = some out) : xG K X S 334 [(0, xr K 6 0), (1, .int i1), (2, .int i2), (3, .int i3), (4, .int i4), (5, .int i5), (6, xr K 33 0), (7, xr K 33 1), (8, xr K 33 2), (9, .int i9), (10, .int i10), (11, .int i11), (12, .int i12), (13, .int i13), (14, .int i14), (15, .int i15), (16, .int i16), (17, .int i17), (18, .int i18)] [.int k0] := by
  unfold fW_areCodes_J334 at h
  refine g_aload hX dL_areCodes_334 8 rfl ?_
  refine g_iload hX dL_areCodes_336 17 rfl ?_
  obtain ⟨hbj1, h⟩ := xat_inv h
  refine g_iald (n := 64) hX hW2 rfl hbj1 dL_areCodes_338 ?_
  refine g_iconst (v := (1 : Int32)) hX dL_areCodes_339 (by decide) ?_
  refine g_icmp_ne hX 347 dL_areCodes_340 (by decide) (fun hc => ?_) (fun hc => ?_)
  · have h := xif_f hc h
    refine g_iconst (v := (0 : Int32)) hX dL_areCodes_347 (by decide) ?_
    exact sfW_areCodes_J348 hX hM hR hV hW0 hW1 hW2 hk134 h
  · have h := xif_t hc h
    refine g_iconst (v := (1 : Int32)) hX dL_areCodes_343 (by decide) ?_
    refine g_goto hX 348 dL_areCodes_344 (by decide) ?_
    exact sfW_areCodes_J348 hX hM hR hV hW0 hW1 hW2 hk134 h
set_option maxRecDepth 100000 in
theorem sbW_areCodes_L134 {K0 K : xK} {ρ : xSt → xSt} {X : xX} {out : xR} {rc rs : Nat} (hX : xOK K X RL cL_areCodes 23) (hM : xMN K0 K ρ X (ρ out.1, out.2) (some .boolean) rc rs) (hR : xRm X 3 68) (hV : (6, 0) ∈ xvl K) (hW0 : (33, 0) ∈ xvl K) (hW1 : (33, 1) ∈ xvl K) (hW2 : (33, 2) ∈ xvl K)  {k134 : xSt → Int32 → Int32 → Int32 → Int32 → Int32 → Int32 → Int32 → Int32 → Int32 → Int32 → Int32 → Int32 → Int32 → Int32 → Option xR} (hk134 : ∀ (S : xSt) (i1 : Int32) (i2 : Int32) (i3 : Int32) (i4 : Int32) (i5 : Int32) (i9 : Int32) (i10 : Int32) (i11 : Int32) (i12 : Int32) (i13 : Int32) (i14 : Int32) (i15 : Int32) (i16 : Int32) (i17 : Int32), k134 S i1 i2 i3 i4 i5 i9 i10 i11 i12 i13 i14 i15 i16 i17 = some out → xG K X S 134 [(0, xr K 6 0), (1, .int i1), (2, .int i2), (3, .int i3), (4, .int i4), (5, .int i5), (6, xr K 33 0), (7, xr K 33 1), (8, xr K 33 2), (9, .int i9), (10, .int i10), (11, .int i11), (12, .int i12), (13, .int i13), (14, .int i14), (15, .int i15), (16, .int i16), (17, .int i17)] []) {S : xSt} {i1 : Int32} {i2 : Int32} {i3 : Int32} {i4 : Int32} {i5 : Int32} {i9 : Int32} {i10 : Int32} {i11 : Int32} {i12 : Int32} {i13 : Int32} {i14 : Int32} {i15 : Int32} {i16 : Int32} {i17 : Int32} (h : bW_areCodes_L134   k134 S i1 i2 i3 i4 i5 i9 i10 i11 i12 i13 i14 i15 i16 i17 = some out) : xG K X S 134 [(0, xr K 6 0), (1, .int i1), (2, .int i2), (3, .int i3), (4, .int i4), (5, .int i5), (6, xr K 33 0), (7, xr K 33 1), (8, xr K 33 2), (9, .int i9), (10, .int i10), (11, .int i11), (12, .int i12), (13, .int i13), (14, .int i14), (15, .int i15), (16, .int i16), (17, .int i17)] [] := by
  unfold bW_areCodes_L134 at h
  refine g_iload hX dL_areCodes_134 17 rfl ?_
  refine g_iload_n hX dL_areCodes_136 rfl 1 rfl ?_
  refine g_icmp_ge hX 695 dL_areCodes_137 (by decide) (fun hc => ?_) (fun hc => ?_)
  · have h := xif_t hc h
    exact g_sub [0, 1, 2, 9, 11, 13, 14, 15] (by rfl) (sfW_areCodes_J695 hX hM hR hV hW0 hW1 hW2 h)
  · have h := xif_f hc h
    refine g_iload hX dL_areCodes_140 13 rfl ?_
    refine g_iload hX dL_areCodes_142 11 rfl ?_
    obtain ⟨S1, r2, hcS1, h⟩ := xbI_inv h
    refine g_callS hX hR (fun l => cW_bits (l := l) hX.vc hcS1) xc9_21 rfl ⟨by decide, by decide⟩ rfl rfl (Nat.le_of_ble_eq_true rfl) dL_areCodes_144 ?_
    refine g_iadd hX dL_areCodes_147 ?_
    refine g_istore (lv2 := [(13, .int (i13 + r2)), (0, xr K 6 0), (1, .int i1), (2, .int i2), (3, .int i3), (4, .int i4), (5, .int i5), (6, xr K 33 0), (7, xr K 33 1), (8, xr K 33 2), (9, .int i9), (10, .int i10), (11, .int i11), (12, .int i12), (14, .int i14), (15, .int i15), (16, .int i16), (17, .int i17)]) hX dL_areCodes_148 (by decide) rfl ?_
    refine g_aload_n hX dL_areCodes_150 rfl 1 rfl ?_
    refine g_iload hX dL_areCodes_151 17 rfl ?_
    refine g_iconst (v := (5 : Int32)) hX dL_areCodes_153 (by decide) ?_
    obtain ⟨S3, r4, hcS3, h⟩ := xbI_inv h
    refine g_callV hX hR hV (fun l => c6_ofCode (l := l) hX.vc hV hcS3) xc9_17 rfl ⟨by decide, by decide⟩ rfl rfl (Nat.le_of_ble_eq_true rfl) dL_areCodes_154 ?_
    refine g_iload hX dL_areCodes_157 12 rfl ?_
    refine g_icmp_ne hX 177 dL_areCodes_159 (by decide) (fun hc => ?_) (fun hc => ?_)
    · have h := xif_f hc h
      refine g_iconst (v := (0 : Int32)) hX dL_areCodes_177 (by decide) ?_
      obtain ⟨hz, h⟩ := xne_inv h
      exact g_zretN hX hM hz (by rw [← Option.some.inj h]) dL_areCodes_178
    · have h := xif_t hc h
      refine g_aload_n hX dL_areCodes_162 rfl 1 rfl ?_
      refine g_iload hX dL_areCodes_163 17 rfl ?_
      refine g_iconst (v := (2 : Int32)) hX dL_areCodes_165 (by decide) ?_
      obtain ⟨S5, r6, hcS5, h⟩ := xbI_inv h
      refine g_callV hX hR hV (fun l => c6_ofCode (l := l) hX.vc hV hcS5) xc9_17 rfl ⟨by decide, by decide⟩ rfl rfl (Nat.le_of_ble_eq_true rfl) dL_areCodes_166 ?_
      refine g_iload hX dL_areCodes_169 12 rfl ?_
      obtain ⟨S7, r8, hcS7, h⟩ := xbI_inv h
      refine g_callS hX hR (fun l => cW_bits (l := l) hX.vc hcS7) xc9_21 rfl ⟨by decide, by decide⟩ rfl rfl (Nat.le_of_ble_eq_true rfl) dL_areCodes_171 ?_
      refine g_icmp_eq hX 179 dL_areCodes_174 (by decide) (fun hc => ?_) (fun hc => ?_)
      · have h := xif_t hc h
        refine g_iload hX dL_areCodes_179 16 rfl ?_
        refine g_if_ne hX 190 dL_areCodes_181 (by decide) (fun hc => ?_) (fun hc => ?_)
        · have h := xif_f hc h
          exact g_sub [1, 2, 3, 4, 5, 6, 7, 8, 9, 10, 12, 13, 0, 14, 15, 16, 17] (by rfl) (sfW_areCodes_J190 hX hM hR hV hW0 hW1 hW2 hk134 h)
        · have h := xif_t hc h
          refine g_iload hX dL_areCodes_184 10 rfl ?_
          refine g_iload_n hX dL_areCodes_186 rfl 3 rfl ?_
          refine g_icmp_ne hX 284 dL_areCodes_187 (by decide) (fun hc => ?_) (fun hc => ?_)
          · have h := xif_f hc h
            refine g_aload hX dL_areCodes_284 7 rfl ?_
            refine g_iload hX dL_areCodes_286 17 rfl ?_
            obtain ⟨hbj9, h⟩ := xat_inv h
            refine g_iald (n := 64) hX hW0 rfl hbj9 dL_areCodes_288 ?_
            refine g_istore (lv2 := [(18, .int (S7 33 0 (i17).toNatClampNeg)), (13, .int (i13 + r2)), (0, xr K 6 0), (1, .int i1), (2, .int i2), (3, .int i3), (4, .int i4), (5, .int i5), (6, xr K 33 0), (7, xr K 33 1), (8, xr K 33 2), (9, .int i9), (10, .int i10), (11, .int i11), (12, .int i12), (14, .int i14), (15, .int i15), (16, .int i16), (17, .int i17)]) hX dL_areCodes_289 (by decide) rfl ?_
            refine g_aload hX dL_areCodes_291 9 rfl ?_
            refine g_iload hX dL_areCodes_293 18 rfl ?_
            obtain ⟨hbj10, h⟩ := xat_inv h
            refine g_iald (n := 64) hX hW1 rfl hbj10 dL_areCodes_295 ?_
            refine g_iload hX dL_areCodes_296 11 rfl ?_
            refine g_icmp_ne hX 369 dL_areCodes_298 (by decide) (fun hc => ?_) (fun hc => ?_)
            · have h := xif_f hc h
              refine g_iconst (v := (0 : Int32)) hX dL_areCodes_369 (by decide) ?_
              obtain ⟨hz, h⟩ := xne_inv h
              exact g_zretN hX hM hz (by rw [← Option.some.inj h]) dL_areCodes_370
            · have h := xif_t hc h
              refine g_iload hX dL_areCodes_301 0 rfl ?_
              refine g_bipush (v := (8 : Int32)) hX dL_areCodes_303 (by decide) ?_
              refine g_icmp_eq hX 369 dL_areCodes_305 (by decide) (fun hc => ?_) (fun hc => ?_)
              · have h := xif_t hc h
                refine g_iconst (v := (0 : Int32)) hX dL_areCodes_369 (by decide) ?_
                obtain ⟨hz, h⟩ := xne_inv h
                exact g_zretN hX hM hz (by rw [← Option.some.inj h]) dL_areCodes_370
              · have h := xif_f hc h
                refine g_iload hX dL_areCodes_308 0 rfl ?_
                refine g_bipush (v := (9 : Int32)) hX dL_areCodes_310 (by decide) ?_
                refine g_icmp_eq hX 369 dL_areCodes_312 (by decide) (fun hc => ?_) (fun hc => ?_)
                · have h := xif_t hc h
                  refine g_iconst (v := (0 : Int32)) hX dL_areCodes_369 (by decide) ?_
                  obtain ⟨hz, h⟩ := xne_inv h
                  exact g_zretN hX hM hz (by rw [← Option.some.inj h]) dL_areCodes_370
                · have h := xif_f hc h
                  refine g_iload hX dL_areCodes_315 0 rfl ?_
                  refine g_iload hX dL_areCodes_317 13 rfl ?_
                  refine g_icmp_ge hX 369 dL_areCodes_319 (by decide) (fun hc => ?_) (fun hc => ?_)
                  · have h := xif_t hc h
                    refine g_iconst (v := (0 : Int32)) hX dL_areCodes_369 (by decide) ?_
                    obtain ⟨hz, h⟩ := xne_inv h
                    exact g_zretN hX hM hz (by rw [← Option.some.inj h]) dL_areCodes_370
                  · have h := xif_f hc h
                    refine g_iload hX dL_areCodes_322 0 rfl ?_
                    refine g_bipush (v := (8 : Int32)) hX dL_areCodes_324 (by decide) ?_
                    refine g_icmp_ge hX 333 dL_areCodes_326 (by decide) (fun hc => ?_) (fun hc => ?_)
                    · have h := xif_t hc h
                      refine g_iconst (v := (0 : Int32)) hX dL_areCodes_333 (by decide) ?_
                      exact g_sub [2, 3, 4, 5, 6, 7, 8, 9, 10, 11, 12, 13, 14, 1, 15, 16, 17, 18, 0] (by rfl) (sfW_areCodes_J334 hX hM hR hV hW0 hW1 hW2 hk134 h)
                    · have h := xif_f hc h
                      refine g_iconst (v := (1 : Int32)) hX dL_areCodes_329 (by decide) ?_
                      refine g_goto hX 334 dL_areCodes_330 (by decide) ?_
                      exact g_sub [2, 3, 4, 5, 6, 7, 8, 9, 10, 11, 12, 13, 14, 1, 15, 16, 17, 18, 0] (by rfl) (sfW_areCodes_J334 hX hM hR hV hW0 hW1 hW2 hk134 h)
          · have h := xif_t hc h
            exact g_sub [1, 2, 3, 4, 5, 6, 7, 8, 9, 10, 12, 13, 0, 14, 15, 16, 17] (by rfl) (sfW_areCodes_J190 hX hM hR hV hW0 hW1 hW2 hk134 h)
      · have h := xif_f hc h
        refine g_iconst (v := (0 : Int32)) hX dL_areCodes_177 (by decide) ?_
        obtain ⟨hz, h⟩ := xne_inv h
        exact g_zretN hX hM hz (by rw [← Option.some.inj h]) dL_areCodes_178
theorem sfW_areCodes_L134 {K0 K : xK} {ρ : xSt → xSt} {X : xX} {out : xR} {rc rs : Nat} (hX : xOK K X RL cL_areCodes 23) (hM : xMN K0 K ρ X (ρ out.1, out.2) (some .boolean) rc rs) (hR : xRm X 3 68) (hV : (6, 0) ∈ xvl K) (hW0 : (33, 0) ∈ xvl K) (hW1 : (33, 1) ∈ xvl K) (hW2 : (33, 2) ∈ xvl K)  : ∀ (n : Nat) (S : xSt) (i1 : Int32) (i2 : Int32) (i3 : Int32) (i4 : Int32) (i5 : Int32) (i9 : Int32) (i10 : Int32) (i11 : Int32) (i12 : Int32) (i13 : Int32) (i14 : Int32) (i15 : Int32) (i16 : Int32) (i17 : Int32) (h : fW_areCodes_L134   n S i1 i2 i3 i4 i5 i9 i10 i11 i12 i13 i14 i15 i16 i17 = some out), xG K X S 134 [(0, xr K 6 0), (1, .int i1), (2, .int i2), (3, .int i3), (4, .int i4), (5, .int i5), (6, xr K 33 0), (7, xr K 33 1), (8, xr K 33 2), (9, .int i9), (10, .int i10), (11, .int i11), (12, .int i12), (13, .int i13), (14, .int i14), (15, .int i15), (16, .int i16), (17, .int i17)] [] := by
  intro n
  induction n with
  | zero => intro S i1 i2 i3 i4 i5 i9 i10 i11 i12 i13 i14 i15 i16 i17 h; cases h
  | succ n ih => intro S i1 i2 i3 i4 i5 i9 i10 i11 i12 i13 i14 i15 i16 i17 h; exact sbW_areCodes_L134 hX hM hR hV hW0 hW1 hW2  ih h
set_option maxRecDepth 100000 in
theorem sfW_areCodes_J106 {K0 K : xK} {ρ : xSt → xSt} {X : xX} {out : xR} {rc rs : Nat} (hX : xOK K X RL cL_areCodes 23) (hM : xMN K0 K ρ X (ρ out.1, out.2) (some .boolean) rc rs) (hR : xRm X 3 68) (hV : (6, 0) ∈ xvl K) (hW0 : (33, 0) ∈ xvl K) (hW1 : (33, 1) ∈ xvl K) (hW2 : (33, 2) ∈ xvl K)  {S : xSt} {i1 : Int32} {i2 : Int32} {i3 : Int32} {i4 : Int32} {i5 : Int32} (h : fW_areCodes_J106   S i1 i2 i3 i4 i5 = some out) : xG K X S 106 [(0, xr K 6 0), (1, .int i1), (2, .int i2), (3, .int i3), (4, .int i4), (5, .int i5), (6, xr K 33 0), (7, xr K 33 1), (8, xr K 33 2)] [] := by
  unfold fW_areCodes_J106 at h
  refine g_iconst (v := (0 : Int32)) hX dL_areCodes_106 (by decide) ?_
  refine g_istore (lv2 := [(9, .int (0 : Int32)), (0, xr K 6 0), (1, .int i1), (2, .int i2), (3, .int i3), (4, .int i4), (5, .int i5), (6, xr K 33 0), (7, xr K 33 1), (8, xr K 33 2)]) hX dL_areCodes_107 (by decide) rfl ?_
  refine g_iconst (v := (0 : Int32)) hX dL_areCodes_109 (by decide) ?_
  refine g_istore (lv2 := [(10, .int (0 : Int32)), (9, .int (0 : Int32)), (0, xr K 6 0), (1, .int i1), (2, .int i2), (3, .int i3), (4, .int i4), (5, .int i5), (6, xr K 33 0), (7, xr K 33 1), (8, xr K 33 2)]) hX dL_areCodes_110 (by decide) rfl ?_
  refine g_bipush (v := (10 : Int32)) hX dL_areCodes_112 (by decide) ?_
  refine g_istore (lv2 := [(11, .int (10 : Int32)), (10, .int (0 : Int32)), (9, .int (0 : Int32)), (0, xr K 6 0), (1, .int i1), (2, .int i2), (3, .int i3), (4, .int i4), (5, .int i5), (6, xr K 33 0), (7, xr K 33 1), (8, xr K 33 2)]) hX dL_areCodes_114 (by decide) rfl ?_
  refine g_iconst (v := (0 : Int32)) hX dL_areCodes_116 (by decide) ?_
  refine g_istore (lv2 := [(12, .int (0 : Int32)), (11, .int (10 : Int32)), (10, .int (0 : Int32)), (9, .int (0 : Int32)), (0, xr K 6 0), (1, .int i1), (2, .int i2), (3, .int i3), (4, .int i4), (5, .int i5), (6, xr K 33 0), (7, xr K 33 1), (8, xr K 33 2)]) hX dL_areCodes_117 (by decide) rfl ?_
  refine g_iconst (v := (0 : Int32)) hX dL_areCodes_119 (by decide) ?_
  refine g_istore (lv2 := [(13, .int (0 : Int32)), (12, .int (0 : Int32)), (11, .int (10 : Int32)), (10, .int (0 : Int32)), (9, .int (0 : Int32)), (0, xr K 6 0), (1, .int i1), (2, .int i2), (3, .int i3), (4, .int i4), (5, .int i5), (6, xr K 33 0), (7, xr K 33 1), (8, xr K 33 2)]) hX dL_areCodes_120 (by decide) rfl ?_
  refine g_iconst (v := (0 : Int32)) hX dL_areCodes_122 (by decide) ?_
  refine g_istore (lv2 := [(14, .int (0 : Int32)), (13, .int (0 : Int32)), (12, .int (0 : Int32)), (11, .int (10 : Int32)), (10, .int (0 : Int32)), (9, .int (0 : Int32)), (0, xr K 6 0), (1, .int i1), (2, .int i2), (3, .int i3), (4, .int i4), (5, .int i5), (6, xr K 33 0), (7, xr K 33 1), (8, xr K 33 2)]) hX dL_areCodes_123 (by decide) rfl ?_
  refine g_iconst (v := (0 : Int32)) hX dL_areCodes_125 (by decide) ?_
  refine g_istore (lv2 := [(15, .int (0 : Int32)), (14, .int (0 : Int32)), (13, .int (0 : Int32)), (12, .int (0 : Int32)), (11, .int (10 : Int32)), (10, .int (0 : Int32)), (9, .int (0 : Int32)), (0, xr K 6 0), (1, .int i1), (2, .int i2), (3, .int i3), (4, .int i4), (5, .int i5), (6, xr K 33 0), (7, xr K 33 1), (8, xr K 33 2)]) hX dL_areCodes_126 (by decide) rfl ?_
  refine g_iconst (v := (0 : Int32)) hX dL_areCodes_128 (by decide) ?_
  refine g_istore (lv2 := [(16, .int (0 : Int32)), (15, .int (0 : Int32)), (14, .int (0 : Int32)), (13, .int (0 : Int32)), (12, .int (0 : Int32)), (11, .int (10 : Int32)), (10, .int (0 : Int32)), (9, .int (0 : Int32)), (0, xr K 6 0), (1, .int i1), (2, .int i2), (3, .int i3), (4, .int i4), (5, .int i5), (6, xr K 33 0), (7, xr K 33 1), (8, xr K 33 2)]) hX dL_areCodes_129 (by decide) rfl ?_
  refine g_iconst (v := (0 : Int32)) hX dL_areCodes_131 (by decide) ?_
  refine g_istore (lv2 := [(17, .int (0 : Int32)), (16, .int (0 : Int32)), (15, .int (0 : Int32)), (14, .int (0 : Int32)), (13, .int (0 : Int32)), (12, .int (0 : Int32)), (11, .int (10 : Int32)), (10, .int (0 : Int32)), (9, .int (0 : Int32)), (0, xr K 6 0), (1, .int i1), (2, .int i2), (3, .int i3), (4, .int i4), (5, .int i5), (6, xr K 33 0), (7, xr K 33 1), (8, xr K 33 2)]) hX dL_areCodes_132 (by decide) rfl ?_
  exact g_sub [9, 10, 11, 12, 13, 14, 15, 16, 17, 8, 7, 6, 5, 4, 3, 2, 1, 0] (by rfl) (sfW_areCodes_L134 hX hM hR hV hW0 hW1 hW2 _ _ _ _ _ _ _ _ _ _ _ _ _ _ _ _ h)
set_option maxRecDepth 100000 in
theorem sbW_areCodes_L58 {K0 K : xK} {ρ : xSt → xSt} {X : xX} {out : xR} {rc rs : Nat} (hX : xOK K X RL cL_areCodes 23) (hM : xMN K0 K ρ X (ρ out.1, out.2) (some .boolean) rc rs) (hR : xRm X 3 68) (hV : (6, 0) ∈ xvl K) (hW0 : (33, 0) ∈ xvl K) (hW1 : (33, 1) ∈ xvl K) (hW2 : (33, 2) ∈ xvl K)  {k58 : xSt → Int32 → Int32 → Int32 → Int32 → Int32 → Int32 → Option xR} (hk58 : ∀ (S : xSt) (i1 : Int32) (i2 : Int32) (i3 : Int32) (i4 : Int32) (i5 : Int32) (i9 : Int32), k58 S i1 i2 i3 i4 i5 i9 = some out → xG K X S 58 [(0, xr K 6 0), (1, .int i1), (2, .int i2), (3, .int i3), (4, .int i4), (5, .int i5), (6, xr K 33 0), (7, xr K 33 1), (8, xr K 33 2), (9, .int i9)] []) {S : xSt} {i1 : Int32} {i2 : Int32} {i3 : Int32} {i4 : Int32} {i5 : Int32} {i9 : Int32} (h : bW_areCodes_L58   k58 S i1 i2 i3 i4 i5 i9 = some out) : xG K X S 58 [(0, xr K 6 0), (1, .int i1), (2, .int i2), (3, .int i3), (4, .int i4), (5, .int i5), (6, xr K 33 0), (7, xr K 33 1), (8, xr K 33 2), (9, .int i9)] [] := by
  unfold bW_areCodes_L58 at h
  refine g_iload hX dL_areCodes_58 9 rfl ?_
  refine g_iload_n hX dL_areCodes_60 rfl 1 rfl ?_
  refine g_icmp_ge hX 106 dL_areCodes_61 (by decide) (fun hc => ?_) (fun hc => ?_)
  · have h := xif_t hc h
    exact g_sub [0, 1, 2, 3, 4, 5, 6, 7, 8] (by rfl) (sfW_areCodes_J106 hX hM hR hV hW0 hW1 hW2 h)
  · have h := xif_f hc h
    refine g_aload hX dL_areCodes_64 6 rfl ?_
    refine g_iload hX dL_areCodes_66 9 rfl ?_
    refine g_aload_n hX dL_areCodes_68 rfl 0 rfl ?_
    refine g_iload hX dL_areCodes_69 9 rfl ?_
    refine g_iconst (v := (0 : Int32)) hX dL_areCodes_71 (by decide) ?_
    obtain ⟨S1, r2, hcS1, h⟩ := xbI_inv h
    refine g_callV hX hR hV (fun l => c6_ofCode (l := l) hX.vc hV hcS1) xc9_17 rfl ⟨by decide, by decide⟩ rfl rfl (Nat.le_of_ble_eq_true rfl) dL_areCodes_72 ?_
    obtain ⟨hbj3, h⟩ := xat_inv h
    obtain ⟨S4, eS4, h⟩ := xlet_inv h
    refine g_iast (n := 64) hX hW0 (fun _ => rfl) hbj3 dL_areCodes_75 eS4 ?_
    refine g_aload hX dL_areCodes_76 7 rfl ?_
    refine g_iload hX dL_areCodes_78 9 rfl ?_
    refine g_aload_n hX dL_areCodes_80 rfl 0 rfl ?_
    refine g_iload hX dL_areCodes_81 9 rfl ?_
    refine g_iconst (v := (3 : Int32)) hX dL_areCodes_83 (by decide) ?_
    obtain ⟨S5, r6, hcS5, h⟩ := xbI_inv h
    refine g_callV hX hR hV (fun l => c6_ofCode (l := l) hX.vc hV hcS5) xc9_17 rfl ⟨by decide, by decide⟩ rfl rfl (Nat.le_of_ble_eq_true rfl) dL_areCodes_84 ?_
    obtain ⟨hbj7, h⟩ := xat_inv h
    obtain ⟨S8, eS8, h⟩ := xlet_inv h
    refine g_iast (n := 64) hX hW1 (fun _ => rfl) hbj7 dL_areCodes_87 eS8 ?_
    refine g_aload hX dL_areCodes_88 8 rfl ?_
    refine g_iload hX dL_areCodes_90 9 rfl ?_
    refine g_aload_n hX dL_areCodes_92 rfl 0 rfl ?_
    refine g_iload hX dL_areCodes_93 9 rfl ?_
    refine g_iconst (v := (4 : Int32)) hX dL_areCodes_95 (by decide) ?_
    obtain ⟨S9, r10, hcS9, h⟩ := xbI_inv h
    refine g_callV hX hR hV (fun l => c6_ofCode (l := l) hX.vc hV hcS9) xc9_17 rfl ⟨by decide, by decide⟩ rfl rfl (Nat.le_of_ble_eq_true rfl) dL_areCodes_96 ?_
    obtain ⟨hbj11, h⟩ := xat_inv h
    obtain ⟨S12, eS12, h⟩ := xlet_inv h
    refine g_iast (n := 64) hX hW2 (fun _ => rfl) hbj11 dL_areCodes_99 eS12 ?_
    refine g_iinc (v := (i9 + (1 : Int32))) (lv2 := [(9, .int (i9 + (1 : Int32))), (0, xr K 6 0), (1, .int i1), (2, .int i2), (3, .int i3), (4, .int i4), (5, .int i5), (6, xr K 33 0), (7, xr K 33 1), (8, xr K 33 2)]) hX dL_areCodes_100 9 rfl rfl (by decide) rfl ?_
    refine g_goto hX 58 dL_areCodes_103 (by decide) ?_
    exact g_sub [1, 2, 3, 4, 5, 6, 7, 8, 9, 0] (by rfl) (hk58 _ _ _ _ _ _ _ h)
theorem sfW_areCodes_L58 {K0 K : xK} {ρ : xSt → xSt} {X : xX} {out : xR} {rc rs : Nat} (hX : xOK K X RL cL_areCodes 23) (hM : xMN K0 K ρ X (ρ out.1, out.2) (some .boolean) rc rs) (hR : xRm X 3 68) (hV : (6, 0) ∈ xvl K) (hW0 : (33, 0) ∈ xvl K) (hW1 : (33, 1) ∈ xvl K) (hW2 : (33, 2) ∈ xvl K)  : ∀ (n : Nat) (S : xSt) (i1 : Int32) (i2 : Int32) (i3 : Int32) (i4 : Int32) (i5 : Int32) (i9 : Int32) (h : fW_areCodes_L58   n S i1 i2 i3 i4 i5 i9 = some out), xG K X S 58 [(0, xr K 6 0), (1, .int i1), (2, .int i2), (3, .int i3), (4, .int i4), (5, .int i5), (6, xr K 33 0), (7, xr K 33 1), (8, xr K 33 2), (9, .int i9)] [] := by
  intro n
  induction n with
  | zero => intro S i1 i2 i3 i4 i5 i9 h; cases h
  | succ n ih => intro S i1 i2 i3 i4 i5 i9 h; exact sbW_areCodes_L58 hX hM hR hV hW0 hW1 hW2  ih h
set_option maxRecDepth 100000 in
theorem cW_areCodes {l : Launch} {K : xK} (hvc : xVC (xvl K)) (hV : (6, 0) ∈ xvl K) (hN : ∀ o, (33, o) ∉ xvl K) {S : xSt} {out : xR} (h : hW_areCodes S = some out) : xMetN l K yL_areCodes cL_areCodes 23 (some .boolean) 3 68 3 192 S [xr K 6 0] out := by
  obtain ⟨out, h9, rfl⟩ := Option.map_eq_some_iff.mp h
  refine xMetN_of RL (xrst S) (by decide +kernel) rfl hvc (fun S9 U9 H9 w => xrst_Wd hN S S9 w) (Nat.le_of_ble_eq_true rfl) ?_
  intro X hX hM hR
  show xG K X S 0 [(0, xr K 6 0)] []
  have h := h9
  unfold fW_areCodes at h
  refine g_aload_n hX dL_areCodes_0 rfl 0 rfl ?_
  refine g_iconst (v := (1 : Int32)) hX dL_areCodes_1 (by decide) ?_
  obtain ⟨S1, r2, hcS1, h⟩ := xbI_inv h
  refine g_callV hX hR hV (fun l => c6_count (l := l) hX.vc hV hcS1) xc9_8 rfl ⟨by decide, by decide⟩ rfl rfl (Nat.le_of_ble_eq_true rfl) dL_areCodes_2 ?_
  refine g_istore_n (lv2 := [(1, .int r2), (0, xr K 6 0)]) hX dL_areCodes_5 rfl (by decide) rfl ?_
  refine g_aload_n hX dL_areCodes_6 rfl 1 rfl ?_
  refine g_iconst (v := (0 : Int32)) hX dL_areCodes_7 (by decide) ?_
  obtain ⟨S3, r4, hcS3, h⟩ := xbI_inv h
  refine g_callV hX hR hV (fun l => c6_count (l := l) hX.vc hV hcS3) xc9_8 rfl ⟨by decide, by decide⟩ rfl rfl (Nat.le_of_ble_eq_true rfl) dL_areCodes_8 ?_
  refine g_istore_n (lv2 := [(2, .int r4), (1, .int r2), (0, xr K 6 0)]) hX dL_areCodes_11 rfl (by decide) rfl ?_
  refine g_iconst (v := (1 : Int32)) hX dL_areCodes_12 (by decide) ?_
  refine g_aload_n hX dL_areCodes_13 rfl 2 rfl ?_
  refine g_bipush (v := (9 : Int32)) hX dL_areCodes_14 (by decide) ?_
  obtain ⟨S5, r6, hcS5, h⟩ := xbI_inv h
  refine g_callV hX hR hV (fun l => c6_count (l := l) hX.vc hV hcS5) xc9_8 rfl ⟨by decide, by decide⟩ rfl rfl (Nat.le_of_ble_eq_true rfl) dL_areCodes_16 ?_
  refine g_ishl hX dL_areCodes_19 ?_
  refine g_istore_n (lv2 := [(3, .int ((1 : Int32) <<< (r6 &&& 31))), (2, .int r4), (1, .int r2), (0, xr K 6 0)]) hX dL_areCodes_20 rfl (by decide) rfl ?_
  refine g_aload_n hX dL_areCodes_21 rfl 3 rfl ?_
  refine g_bipush (v := (10 : Int32)) hX dL_areCodes_22 (by decide) ?_
  obtain ⟨S7, r8, hcS7, h⟩ := xbI_inv h
  refine g_callV hX hR hV (fun l => c6_count (l := l) hX.vc hV hcS7) xc9_8 rfl ⟨by decide, by decide⟩ rfl rfl (Nat.le_of_ble_eq_true rfl) dL_areCodes_24 ?_
  refine g_istore (lv2 := [(4, .int r8), (3, .int ((1 : Int32) <<< (r6 &&& 31))), (2, .int r4), (1, .int r2), (0, xr K 6 0)]) hX dL_areCodes_27 (by decide) rfl ?_
  refine g_aload_n hX dL_areCodes_29 rfl 4 rfl ?_
  refine g_bipush (v := (11 : Int32)) hX dL_areCodes_30 (by decide) ?_
  obtain ⟨S9, r10, hcS9, h⟩ := xbI_inv h
  refine g_callV hX hR hV (fun l => c6_count (l := l) hX.vc hV hcS9) xc9_8 rfl ⟨by decide, by decide⟩ rfl rfl (Nat.le_of_ble_eq_true rfl) dL_areCodes_32 ?_
  refine g_istore (lv2 := [(5, .int r10), (4, .int r8), (3, .int ((1 : Int32) <<< (r6 &&& 31))), (2, .int r4), (1, .int r2), (0, xr K 6 0)]) hX dL_areCodes_35 (by decide) rfl ?_
  refine g_bipush (v := (64 : Int32)) hX dL_areCodes_37 (by decide) ?_
  obtain ⟨S11, eS11, h⟩ := xlet_inv h
  refine g_newa (j := 0) 2 128 hX hM hR (hN 0) (by decide) (by decide) xarI eS11 dL_areCodes_39 (fun K1 hE hX hM hR => ?_)
  rw [show xr K 6 0 = xr K1 6 0 from xEx_r hE (by decide)]
  have hV := xEx_in hE hV
  have hW0 := xEx_new hE
  have hN1 := xEx_no hE (hN 1) (by decide)
  have hN2 := xEx_no hE (hN 2) (by decide)
  refine g_astore (lv2 := [(6, xr K1 33 0), (5, .int r10), (4, .int r8), (3, .int ((1 : Int32) <<< (r6 &&& 31))), (2, .int r4), (1, .int r2), (0, xr K1 6 0)]) hX dL_areCodes_41 (by decide) rfl ?_
  refine g_bipush (v := (64 : Int32)) hX dL_areCodes_43 (by decide) ?_
  obtain ⟨S12, eS12, h⟩ := xlet_inv h
  refine g_newa (j := 1) 1 64 hX hM hR hN1 (by decide) (by decide) xarI eS12 dL_areCodes_45 (fun K2 hE hX hM hR => ?_)
  rw [show xr K1 33 0 = xr K2 33 0 from xEx_r hE (by decide)]
  rw [show xr K1 6 0 = xr K2 6 0 from xEx_r hE (by decide)]
  have hV := xEx_in hE hV
  have hW0 := xEx_in hE hW0
  have hW1 := xEx_new hE
  have hN2 := xEx_no hE hN2 (by decide)
  refine g_astore (lv2 := [(7, xr K2 33 1), (6, xr K2 33 0), (5, .int r10), (4, .int r8), (3, .int ((1 : Int32) <<< (r6 &&& 31))), (2, .int r4), (1, .int r2), (0, xr K2 6 0)]) hX dL_areCodes_47 (by decide) rfl ?_
  refine g_bipush (v := (64 : Int32)) hX dL_areCodes_49 (by decide) ?_
  obtain ⟨S13, eS13, h⟩ := xlet_inv h
  refine g_newa (j := 2) 0 0 hX hM hR hN2 (by decide) (by decide) xarI eS13 dL_areCodes_51 (fun K3 hE hX hM hR => ?_)
  rw [show xr K2 33 1 = xr K3 33 1 from xEx_r hE (by decide)]
  rw [show xr K2 33 0 = xr K3 33 0 from xEx_r hE (by decide)]
  rw [show xr K2 6 0 = xr K3 6 0 from xEx_r hE (by decide)]
  have hV := xEx_in hE hV
  have hW0 := xEx_in hE hW0
  have hW1 := xEx_in hE hW1
  have hW2 := xEx_new hE
  refine g_astore (lv2 := [(8, xr K3 33 2), (7, xr K3 33 1), (6, xr K3 33 0), (5, .int r10), (4, .int r8), (3, .int ((1 : Int32) <<< (r6 &&& 31))), (2, .int r4), (1, .int r2), (0, xr K3 6 0)]) hX dL_areCodes_53 (by decide) rfl ?_
  refine g_iconst (v := (0 : Int32)) hX dL_areCodes_55 (by decide) ?_
  refine g_istore (lv2 := [(9, .int (0 : Int32)), (8, xr K3 33 2), (7, xr K3 33 1), (6, xr K3 33 0), (5, .int r10), (4, .int r8), (3, .int ((1 : Int32) <<< (r6 &&& 31))), (2, .int r4), (1, .int r2), (0, xr K3 6 0)]) hX dL_areCodes_56 (by decide) rfl ?_
  exact g_sub [9, 8, 7, 6, 5, 4, 3, 2, 1, 0] (by rfl) (sfW_areCodes_L58 hX hM hR hV hW0 hW1 hW2 _ _ _ _ _ _ _ _ h)
set_option maxRecDepth 100000 in
theorem sfW_areEntries_J191 {K : xK} {X : xX} {out : xR}  (hX : xOK K X RL cL_areEntries 5) (hM : xM K X out (some .boolean)) (hR : xRm X 2 43) (hV : (6, 0) ∈ xvl K)  {S : xSt}  (h : fW_areEntries_J191   S  = some out) : xG K X S 191 [(0, xr K 6 0)] [] := by
  unfold fW_areEntries_J191 at h
  refine g_aload_n hX dL_areEntries_191 rfl 0 rfl ?_
  refine g_aload_n hX dL_areEntries_192 rfl 0 rfl ?_
  refine g_iconst (v := (4 : Int32)) hX dL_areEntries_193 (by decide) ?_
  obtain ⟨S1, r2, hcS1, h⟩ := xbI_inv h
  refine g_callV hX hR hV (fun l => c6_count (l := l) hX.vc hV hcS1) xc9_8 rfl ⟨by decide, by decide⟩ rfl rfl (Nat.le_of_ble_eq_true rfl) dL_areEntries_194 ?_
  refine g_iconst (v := (0 : Int32)) hX dL_areEntries_197 (by decide) ?_
  obtain ⟨S3, r4, hcS3, h⟩ := xbI_inv h
  refine g_callV hX hR hV (fun l => c6_entry (l := l) hX.vc hV hcS3) xc9_30 rfl ⟨by decide, by decide⟩ rfl rfl (Nat.le_of_ble_eq_true rfl) dL_areEntries_198 ?_
  refine g_iconst (v := (-1 : Int32)) hX dL_areEntries_201 (by decide) ?_
  refine g_icmp_ne hX 209 dL_areEntries_202 (by decide) (fun hc => ?_) (fun hc => ?_)
  · have h := xif_f hc h
    refine g_iconst (v := (0 : Int32)) hX dL_areEntries_209 (by decide) ?_
    obtain ⟨hz, h⟩ := xne_inv h
    exact g_zret hX hM hz (Option.some.inj h) dL_areEntries_210
  · have h := xif_t hc h
    refine g_iconst (v := (1 : Int32)) hX dL_areEntries_205 (by decide) ?_
    refine g_goto hX 210 dL_areEntries_206 (by decide) ?_
    obtain ⟨hz, h⟩ := xne_inv h
    exact g_zret hX hM hz (Option.some.inj h) dL_areEntries_210
set_option maxRecDepth 100000 in
theorem sfW_areEntries_J185 {K : xK} {X : xX} {out : xR}  (hX : xOK K X RL cL_areEntries 5) (hM : xM K X out (some .boolean)) (hR : xRm X 2 43) (hV : (6, 0) ∈ xvl K) {k42 : xSt → Int32 → Int32 → Option xR} (hk42 : ∀ (S : xSt) (i2 : Int32) (i3 : Int32), k42 S i2 i3 = some out → xG K X S 42 [(0, xr K 6 0), (2, .int i2), (3, .int i3)] []) {S : xSt} {i2 : Int32} {i3 : Int32} (h : fW_areEntries_J185  k42 S i2 i3 = some out) : xG K X S 185 [(0, xr K 6 0), (2, .int i2), (3, .int i3)] [] := by
  unfold fW_areEntries_J185 at h
  refine g_iinc (v := (i3 + (1 : Int32))) (lv2 := [(3, .int (i3 + (1 : Int32))), (0, xr K 6 0), (2, .int i2)]) hX dL_areEntries_185 2 rfl rfl (by decide) rfl ?_
  refine g_goto hX 42 dL_areEntries_188 (by decide) ?_
  exact g_sub [1, 2, 0] (by rfl) (hk42 _ _ _ h)
set_option maxRecDepth 100000 in
theorem sfW_areEntries_J113 {K : xK} {X : xX} {out : xR}  (hX : xOK K X RL cL_areEntries 5) (hM : xM K X out (some .boolean)) (hR : xRm X 2 43) (hV : (6, 0) ∈ xvl K)  {S : xSt}  (h : fW_areEntries_J113   S  = some out) : xG K X S 113 [] [] := by
  unfold fW_areEntries_J113 at h
  refine g_goto hX 183 dL_areEntries_113 (by decide) ?_
  refine g_iconst (v := (0 : Int32)) hX dL_areEntries_183 (by decide) ?_
  obtain ⟨hz, h⟩ := xne_inv h
  exact g_zret hX hM hz (Option.some.inj h) dL_areEntries_184
set_option maxRecDepth 100000 in
theorem sfW_areEntries_J99 {K : xK} {X : xX} {out : xR}  (hX : xOK K X RL cL_areEntries 5) (hM : xM K X out (some .boolean)) (hR : xRm X 2 43) (hV : (6, 0) ∈ xvl K) {k42 : xSt → Int32 → Int32 → Option xR} (hk42 : ∀ (S : xSt) (i2 : Int32) (i3 : Int32), k42 S i2 i3 = some out → xG K X S 42 [(0, xr K 6 0), (2, .int i2), (3, .int i3)] []) {S : xSt} {i2 : Int32} {i3 : Int32} {k0 : Int32} {k1 : Int32} (h : fW_areEntries_J99  k42 S i2 i3 k0 k1 = some out) : xG K X S 99 [(0, xr K 6 0), (2, .int i2), (3, .int i3)] [.int k0, .int k1] := by
  unfold fW_areEntries_J99 at h
  refine g_icmp_ne hX 183 dL_areEntries_99 (by decide) (fun hc => ?_) (fun hc => ?_)
  · have h := xif_f hc h
    refine g_iconst (v := (0 : Int32)) hX dL_areEntries_183 (by decide) ?_
    obtain ⟨hz, h⟩ := xne_inv h
    exact g_zret hX hM hz (Option.some.inj h) dL_areEntries_184
  · have h := xif_t hc h
    refine g_aload_n hX dL_areEntries_102 rfl 0 rfl ?_
    refine g_iload_n hX dL_areEntries_103 rfl 2 rfl ?_
    refine g_iconst (v := (2 : Int32)) hX dL_areEntries_104 (by decide) ?_
    obtain ⟨S1, r2, hcS1, h⟩ := xbI_inv h
    refine g_callV hX hR hV (fun l => c6_entry (l := l) hX.vc hV hcS1) xc9_30 rfl ⟨by decide, by decide⟩ rfl rfl (Nat.le_of_ble_eq_true rfl) dL_areEntries_105 ?_
    refine g_bipush (v := (-6 : Int32)) hX dL_areEntries_108 (by decide) ?_
    refine g_icmp_eq hX 185 dL_areEntries_110 (by decide) (fun hc => ?_) (fun hc => ?_)
    · have h := xif_t hc h
      exact sfW_areEntries_J185 hX hM hR hV hk42 h
    · have h := xif_f hc h
      exact g_sub [] (by rfl) (sfW_areEntries_J113 hX hM hR hV h)
set_option maxRecDepth 100000 in
theorem sfW_areEntries_J78 {K : xK} {X : xX} {out : xR}  (hX : xOK K X RL cL_areEntries 5) (hM : xM K X out (some .boolean)) (hR : xRm X 2 43) (hV : (6, 0) ∈ xvl K) {k42 : xSt → Int32 → Int32 → Option xR} (hk42 : ∀ (S : xSt) (i2 : Int32) (i3 : Int32), k42 S i2 i3 = some out → xG K X S 42 [(0, xr K 6 0), (2, .int i2), (3, .int i3)] []) {S : xSt} {i2 : Int32} {i3 : Int32} {k0 : Int32} {k1 : Int32} (h : fW_areEntries_J78  k42 S i2 i3 k0 k1 = some out) : xG K X S 78 [(0, xr K 6 0), (2, .int i2), (3, .int i3)] [.int k0, .int k1] := by
  unfold fW_areEntries_J78 at h
  refine g_icmp_ne hX 183 dL_areEntries_78 (by decide) (fun hc => ?_) (fun hc => ?_)
  · have h := xif_f hc h
    refine g_iconst (v := (0 : Int32)) hX dL_areEntries_183 (by decide) ?_
    obtain ⟨hz, h⟩ := xne_inv h
    exact g_zret hX hM hz (Option.some.inj h) dL_areEntries_184
  · have h := xif_t hc h
    refine g_aload_n hX dL_areEntries_81 rfl 0 rfl ?_
    refine g_iload_n hX dL_areEntries_82 rfl 2 rfl ?_
    refine g_iconst (v := (1 : Int32)) hX dL_areEntries_83 (by decide) ?_
    obtain ⟨S1, r2, hcS1, h⟩ := xbI_inv h
    refine g_callV hX hR hV (fun l => c6_entry (l := l) hX.vc hV hcS1) xc9_30 rfl ⟨by decide, by decide⟩ rfl rfl (Nat.le_of_ble_eq_true rfl) dL_areEntries_84 ?_
    refine g_iload_n hX dL_areEntries_87 rfl 2 rfl ?_
    refine g_bipush (v := (8 : Int32)) hX dL_areEntries_88 (by decide) ?_
    refine g_icmp_ge hX 97 dL_areEntries_90 (by decide) (fun hc => ?_) (fun hc => ?_)
    · have h := xif_t hc h
      refine g_bipush (v := (-6 : Int32)) hX dL_areEntries_97 (by decide) ?_
      exact sfW_areEntries_J99 hX hM hR hV hk42 h
    · have h := xif_f hc h
      refine g_iload_n hX dL_areEntries_93 rfl 2 rfl ?_
      refine g_goto hX 99 dL_areEntries_94 (by decide) ?_
      exact sfW_areEntries_J99 hX hM hR hV hk42 h
set_option maxRecDepth 100000 in
theorem sbW_areEntries_L42 {K : xK} {X : xX} {out : xR}  (hX : xOK K X RL cL_areEntries 5) (hM : xM K X out (some .boolean)) (hR : xRm X 2 43) (hV : (6, 0) ∈ xvl K)  {k42 : xSt → Int32 → Int32 → Option xR} (hk42 : ∀ (S : xSt) (i2 : Int32) (i3 : Int32), k42 S i2 i3 = some out → xG K X S 42 [(0, xr K 6 0), (2, .int i2), (3, .int i3)] []) {S : xSt} {i2 : Int32} {i3 : Int32} (h : bW_areEntries_L42   k42 S i2 i3 = some out) : xG K X S 42 [(0, xr K 6 0), (2, .int i2), (3, .int i3)] [] := by
  unfold bW_areEntries_L42 at h
  refine g_iload_n hX dL_areEntries_42 rfl 2 rfl ?_
  refine g_aload_n hX dL_areEntries_43 rfl 0 rfl ?_
  refine g_iconst (v := (4 : Int32)) hX dL_areEntries_44 (by decide) ?_
  obtain ⟨S1, r2, hcS1, h⟩ := xbI_inv h
  refine g_callV hX hR hV (fun l => c6_count (l := l) hX.vc hV hcS1) xc9_8 rfl ⟨by decide, by decide⟩ rfl rfl (Nat.le_of_ble_eq_true rfl) dL_areEntries_45 ?_
  refine g_icmp_ge hX 191 dL_areEntries_48 (by decide) (fun hc => ?_) (fun hc => ?_)
  · have h := xif_t hc h
    exact g_sub [0] (by rfl) (sfW_areEntries_J191 hX hM hR hV h)
  · have h := xif_f hc h
    refine g_aload_n hX dL_areEntries_51 rfl 0 rfl ?_
    refine g_iload_n hX dL_areEntries_52 rfl 2 rfl ?_
    refine g_iconst (v := (0 : Int32)) hX dL_areEntries_53 (by decide) ?_
    obtain ⟨S3, r4, hcS3, h⟩ := xbI_inv h
    refine g_callV hX hR hV (fun l => c6_entry (l := l) hX.vc hV hcS3) xc9_30 rfl ⟨by decide, by decide⟩ rfl rfl (Nat.le_of_ble_eq_true rfl) dL_areEntries_54 ?_
    refine g_istore (lv2 := [(4, .int r4), (0, xr K 6 0), (2, .int i2), (3, .int i3)]) hX dL_areEntries_57 (by decide) rfl ?_
    refine g_iload_n hX dL_areEntries_59 rfl 3 rfl ?_
    refine g_bipush (v := (10 : Int32)) hX dL_areEntries_60 (by decide) ?_
    refine g_icmp_ge hX 116 dL_areEntries_62 (by decide) (fun hc => ?_) (fun hc => ?_)
    · have h := xif_t hc h
      refine g_iload hX dL_areEntries_116 0 rfl ?_
      refine g_aload_n hX dL_areEntries_118 rfl 1 rfl ?_
      refine g_iload_n hX dL_areEntries_119 rfl 2 rfl ?_
      refine g_iload_n hX dL_areEntries_120 rfl 3 rfl ?_
      refine g_iadd hX dL_areEntries_121 ?_
      refine g_bipush (v := (10 : Int32)) hX dL_areEntries_122 (by decide) ?_
      refine g_isub hX dL_areEntries_124 ?_
      refine g_iconst (v := (4 : Int32)) hX dL_areEntries_125 (by decide) ?_
      obtain ⟨S5, r6, hcS5, h⟩ := xbI_inv h
      refine g_callV hX hR hV (fun l => c6_ofCode (l := l) hX.vc hV hcS5) xc9_17 rfl ⟨by decide, by decide⟩ rfl rfl (Nat.le_of_ble_eq_true rfl) dL_areEntries_126 ?_
      refine g_iconst (v := (1 : Int32)) hX dL_areEntries_129 (by decide) ?_
      refine g_iadd hX dL_areEntries_130 ?_
      refine g_icmp_ne hX 183 dL_areEntries_131 (by decide) (fun hc => ?_) (fun hc => ?_)
      · have h := xif_f hc h
        refine g_iconst (v := (0 : Int32)) hX dL_areEntries_183 (by decide) ?_
        obtain ⟨hz, h⟩ := xne_inv h
        exact g_zret hX hM hz (Option.some.inj h) dL_areEntries_184
      · have h := xif_t hc h
        refine g_aload_n hX dL_areEntries_134 rfl 1 rfl ?_
        refine g_iload_n hX dL_areEntries_135 rfl 3 rfl ?_
        refine g_iconst (v := (2 : Int32)) hX dL_areEntries_136 (by decide) ?_
        obtain ⟨S7, r8, hcS7, h⟩ := xbI_inv h
        refine g_callV hX hR hV (fun l => c6_entry (l := l) hX.vc hV hcS7) xc9_30 rfl ⟨by decide, by decide⟩ rfl rfl (Nat.le_of_ble_eq_true rfl) dL_areEntries_137 ?_
        refine g_aload_n hX dL_areEntries_140 rfl 1 rfl ?_
        refine g_iload_n hX dL_areEntries_141 rfl 2 rfl ?_
        refine g_iload_n hX dL_areEntries_142 rfl 3 rfl ?_
        refine g_iadd hX dL_areEntries_143 ?_
        refine g_bipush (v := (10 : Int32)) hX dL_areEntries_144 (by decide) ?_
        refine g_isub hX dL_areEntries_146 ?_
        refine g_iconst (v := (0 : Int32)) hX dL_areEntries_147 (by decide) ?_
        obtain ⟨S9, r10, hcS9, h⟩ := xbI_inv h
        refine g_callV hX hR hV (fun l => c6_ofCode (l := l) hX.vc hV hcS9) xc9_17 rfl ⟨by decide, by decide⟩ rfl rfl (Nat.le_of_ble_eq_true rfl) dL_areEntries_148 ?_
        refine g_icmp_ne hX 183 dL_areEntries_151 (by decide) (fun hc => ?_) (fun hc => ?_)
        · have h := xif_f hc h
          refine g_iconst (v := (0 : Int32)) hX dL_areEntries_183 (by decide) ?_
          obtain ⟨hz, h⟩ := xne_inv h
          exact g_zret hX hM hz (Option.some.inj h) dL_areEntries_184
        · have h := xif_t hc h
          refine g_aload_n hX dL_areEntries_154 rfl 1 rfl ?_
          refine g_iload_n hX dL_areEntries_155 rfl 3 rfl ?_
          refine g_iconst (v := (1 : Int32)) hX dL_areEntries_156 (by decide) ?_
          obtain ⟨S11, r12, hcS11, h⟩ := xbI_inv h
          refine g_callV hX hR hV (fun l => c6_entry (l := l) hX.vc hV hcS11) xc9_30 rfl ⟨by decide, by decide⟩ rfl rfl (Nat.le_of_ble_eq_true rfl) dL_areEntries_157 ?_
          refine g_aload_n hX dL_areEntries_160 rfl 1 rfl ?_
          refine g_aload_n hX dL_areEntries_161 rfl 1 rfl ?_
          refine g_iload_n hX dL_areEntries_162 rfl 2 rfl ?_
          refine g_iload_n hX dL_areEntries_163 rfl 3 rfl ?_
          refine g_iadd hX dL_areEntries_164 ?_
          refine g_bipush (v := (10 : Int32)) hX dL_areEntries_165 (by decide) ?_
          refine g_isub hX dL_areEntries_167 ?_
          refine g_iconst (v := (3 : Int32)) hX dL_areEntries_168 (by decide) ?_
          obtain ⟨S13, r14, hcS13, h⟩ := xbI_inv h
          refine g_callV hX hR hV (fun l => c6_ofCode (l := l) hX.vc hV hcS13) xc9_17 rfl ⟨by decide, by decide⟩ rfl rfl (Nat.le_of_ble_eq_true rfl) dL_areEntries_169 ?_
          refine g_iload hX dL_areEntries_172 0 rfl ?_
          refine g_iadd hX dL_areEntries_174 ?_
          refine g_iconst (v := (1 : Int32)) hX dL_areEntries_175 (by decide) ?_
          refine g_isub hX dL_areEntries_176 ?_
          obtain ⟨S15, r16, hcS15, h⟩ := xbI_inv h
          refine g_callV hX hR hV (fun l => c6_sign (l := l) hX.vc hV hcS15) xc9_14 rfl ⟨by decide, by decide⟩ rfl rfl (Nat.le_of_ble_eq_true rfl) dL_areEntries_177 ?_
          refine g_icmp_eq hX 185 dL_areEntries_180 (by decide) (fun hc => ?_) (fun hc => ?_)
          · have h := xif_t hc h
            exact g_sub [1, 2, 3] (by rfl) (sfW_areEntries_J185 hX hM hR hV hk42 h)
          · have h := xif_f hc h
            refine g_iconst (v := (0 : Int32)) hX dL_areEntries_183 (by decide) ?_
            obtain ⟨hz, h⟩ := xne_inv h
            exact g_zret hX hM hz (Option.some.inj h) dL_areEntries_184
    · have h := xif_f hc h
      refine g_iload hX dL_areEntries_65 0 rfl ?_
      refine g_iload_n hX dL_areEntries_67 rfl 3 rfl ?_
      refine g_bipush (v := (8 : Int32)) hX dL_areEntries_68 (by decide) ?_
      refine g_icmp_ge hX 77 dL_areEntries_70 (by decide) (fun hc => ?_) (fun hc => ?_)
      · have h := xif_t hc h
        refine g_iconst (v := (0 : Int32)) hX dL_areEntries_77 (by decide) ?_
        exact g_sub [1, 2, 3] (by rfl) (sfW_areEntries_J78 hX hM hR hV hk42 h)
      · have h := xif_f hc h
        refine g_iconst (v := (1 : Int32)) hX dL_areEntries_73 (by decide) ?_
        refine g_goto hX 78 dL_areEntries_74 (by decide) ?_
        exact g_sub [1, 2, 3] (by rfl) (sfW_areEntries_J78 hX hM hR hV hk42 h)
theorem sfW_areEntries_L42 {K : xK} {X : xX} {out : xR}  (hX : xOK K X RL cL_areEntries 5) (hM : xM K X out (some .boolean)) (hR : xRm X 2 43) (hV : (6, 0) ∈ xvl K)  : ∀ (n : Nat) (S : xSt) (i2 : Int32) (i3 : Int32) (h : fW_areEntries_L42   n S i2 i3 = some out), xG K X S 42 [(0, xr K 6 0), (2, .int i2), (3, .int i3)] [] := by
  intro n
  induction n with
  | zero => intro S i2 i3 h; cases h
  | succ n ih => intro S i2 i3 h; exact sbW_areEntries_L42 hX hM hR hV  ih h
set_option maxRecDepth 100000 in
theorem sfW_areEntries_J40 {K : xK} {X : xX} {out : xR}  (hX : xOK K X RL cL_areEntries 5) (hM : xM K X out (some .boolean)) (hR : xRm X 2 43) (hV : (6, 0) ∈ xvl K)  {S : xSt} {i2 : Int32} (h : fW_areEntries_J40   S i2 = some out) : xG K X S 40 [(0, xr K 6 0), (2, .int i2)] [] := by
  unfold fW_areEntries_J40 at h
  refine g_iconst (v := (0 : Int32)) hX dL_areEntries_40 (by decide) ?_
  refine g_istore_n (lv2 := [(3, .int (0 : Int32)), (0, xr K 6 0), (2, .int i2)]) hX dL_areEntries_41 rfl (by decide) rfl ?_
  exact g_sub [1, 2, 0] (by rfl) (sfW_areEntries_L42 hX hM hR hV _ _ _ _ h)
set_option maxRecDepth 100000 in
theorem sfW_areEntries_J33 {K : xK} {X : xX} {out : xR}  (hX : xOK K X RL cL_areEntries 5) (hM : xM K X out (some .boolean)) (hR : xRm X 2 43) (hV : (6, 0) ∈ xvl K) {k10 : xSt → Int32 → Int32 → Int32 → Option xR} (hk10 : ∀ (S : xSt) (i1 : Int32) (i2 : Int32) (i3 : Int32), k10 S i1 i2 i3 = some out → xG K X S 10 [(0, xr K 6 0), (1, .int i1), (2, .int i2), (3, .int i3)] []) {S : xSt} {i1 : Int32} {i3 : Int32} {k0 : Int32} (h : fW_areEntries_J33  k10 S i1 i3 k0 = some out) : xG K X S 33 [(0, xr K 6 0), (1, .int i1), (3, .int i3)] [.int k0] := by
  unfold fW_areEntries_J33 at h
  refine g_istore_n (lv2 := [(2, .int k0), (0, xr K 6 0), (1, .int i1), (3, .int i3)]) hX dL_areEntries_33 rfl (by decide) rfl ?_
  refine g_iinc (v := (i3 + (1 : Int32))) (lv2 := [(3, .int (i3 + (1 : Int32))), (2, .int k0), (0, xr K 6 0), (1, .int i1)]) hX dL_areEntries_34 3 rfl rfl (by decide) rfl ?_
  refine g_goto hX 10 dL_areEntries_37 (by decide) ?_
  exact g_sub [2, 3, 1, 0] (by rfl) (hk10 _ _ _ _ h)
set_option maxRecDepth 100000 in
theorem sbW_areEntries_L10 {K : xK} {X : xX} {out : xR}  (hX : xOK K X RL cL_areEntries 5) (hM : xM K X out (some .boolean)) (hR : xRm X 2 43) (hV : (6, 0) ∈ xvl K)  {k10 : xSt → Int32 → Int32 → Int32 → Option xR} (hk10 : ∀ (S : xSt) (i1 : Int32) (i2 : Int32) (i3 : Int32), k10 S i1 i2 i3 = some out → xG K X S 10 [(0, xr K 6 0), (1, .int i1), (2, .int i2), (3, .int i3)] []) {S : xSt} {i1 : Int32} {i2 : Int32} {i3 : Int32} (h : bW_areEntries_L10   k10 S i1 i2 i3 = some out) : xG K X S 10 [(0, xr K 6 0), (1, .int i1), (2, .int i2), (3, .int i3)] [] := by
  unfold bW_areEntries_L10 at h
  refine g_iload_n hX dL_areEntries_10 rfl 3 rfl ?_
  refine g_iload_n hX dL_areEntries_11 rfl 1 rfl ?_
  refine g_icmp_ge hX 40 dL_areEntries_12 (by decide) (fun hc => ?_) (fun hc => ?_)
  · have h := xif_t hc h
    exact g_sub [0, 2] (by rfl) (sfW_areEntries_J40 hX hM hR hV h)
  · have h := xif_f hc h
    refine g_aload_n hX dL_areEntries_15 rfl 0 rfl ?_
    refine g_iload_n hX dL_areEntries_16 rfl 3 rfl ?_
    refine g_iconst (v := (0 : Int32)) hX dL_areEntries_17 (by decide) ?_
    obtain ⟨S1, r2, hcS1, h⟩ := xbI_inv h
    refine g_callV hX hR hV (fun l => c6_ofCode (l := l) hX.vc hV hcS1) xc9_17 rfl ⟨by decide, by decide⟩ rfl rfl (Nat.le_of_ble_eq_true rfl) dL_areEntries_18 ?_
    refine g_bipush (v := (8 : Int32)) hX dL_areEntries_21 (by decide) ?_
    refine g_icmp_ne hX 32 dL_areEntries_23 (by decide) (fun hc => ?_) (fun hc => ?_)
    · have h := xif_f hc h
      refine g_iload_n hX dL_areEntries_32 rfl 2 rfl ?_
      exact g_sub [0, 1, 3] (by rfl) (sfW_areEntries_J33 hX hM hR hV hk10 h)
    · have h := xif_t hc h
      refine g_iload_n hX dL_areEntries_26 rfl 3 rfl ?_
      refine g_iconst (v := (1 : Int32)) hX dL_areEntries_27 (by decide) ?_
      refine g_iadd hX dL_areEntries_28 ?_
      refine g_goto hX 33 dL_areEntries_29 (by decide) ?_
      exact g_sub [0, 1, 3] (by rfl) (sfW_areEntries_J33 hX hM hR hV hk10 h)
theorem sfW_areEntries_L10 {K : xK} {X : xX} {out : xR}  (hX : xOK K X RL cL_areEntries 5) (hM : xM K X out (some .boolean)) (hR : xRm X 2 43) (hV : (6, 0) ∈ xvl K)  : ∀ (n : Nat) (S : xSt) (i1 : Int32) (i2 : Int32) (i3 : Int32) (h : fW_areEntries_L10   n S i1 i2 i3 = some out), xG K X S 10 [(0, xr K 6 0), (1, .int i1), (2, .int i2), (3, .int i3)] [] := by
  intro n
  induction n with
  | zero => intro S i1 i2 i3 h; cases h
  | succ n ih => intro S i1 i2 i3 h; exact sbW_areEntries_L10 hX hM hR hV  ih h
set_option maxRecDepth 100000 in
theorem cW_areEntries {l : Launch} {K : xK}  (hvc : xVC (xvl K)) (hV : (6, 0) ∈ xvl K) {S : xSt}  {out : xR} (h : fW_areEntries S   = some out) : xMet l K yL_areEntries cL_areEntries 5 (some .boolean) 2 43 S [xr K 6 0] out := by
  refine xMet_of RL (by decide +kernel) rfl hvc (Nat.le_of_ble_eq_true rfl) ?_
  intro X hX hM hR
  show xG K X S 0 [(0, xr K 6 0)] []
  unfold fW_areEntries at h
  refine g_aload_n hX dL_areEntries_0 rfl 0 rfl ?_
  refine g_iconst (v := (1 : Int32)) hX dL_areEntries_1 (by decide) ?_
  obtain ⟨S1, r2, hcS1, h⟩ := xbI_inv h
  refine g_callV hX hR hV (fun l => c6_count (l := l) hX.vc hV hcS1) xc9_8 rfl ⟨by decide, by decide⟩ rfl rfl (Nat.le_of_ble_eq_true rfl) dL_areEntries_2 ?_
  refine g_istore_n (lv2 := [(1, .int r2), (0, xr K 6 0)]) hX dL_areEntries_5 rfl (by decide) rfl ?_
  refine g_iconst (v := (0 : Int32)) hX dL_areEntries_6 (by decide) ?_
  refine g_istore_n (lv2 := [(2, .int (0 : Int32)), (1, .int r2), (0, xr K 6 0)]) hX dL_areEntries_7 rfl (by decide) rfl ?_
  refine g_iconst (v := (0 : Int32)) hX dL_areEntries_8 (by decide) ?_
  refine g_istore_n (lv2 := [(3, .int (0 : Int32)), (2, .int (0 : Int32)), (1, .int r2), (0, xr K 6 0)]) hX dL_areEntries_9 rfl (by decide) rfl ?_
  exact g_sub [3, 2, 1, 0] (by rfl) (sfW_areEntries_L10 hX hM hR hV _ _ _ _ _ h)
set_option maxRecDepth 100000 in
theorem sfW_isRead_J511 {K0 K : xK} {ρ : xSt → xSt} {X : xX} {out : xR} {rc rs : Nat} (hX : xOK K X RL cL_isRead 20) (hM : xMN K0 K ρ X (ρ out.1, out.2) (some .boolean) rc rs) (hR : xRm X 3 58) (hV : (6, 0) ∈ xvl K) (hW0 : (33, 0) ∈ xvl K) (hW1 : (33, 1) ∈ xvl K)  {S : xSt} {i8 : Int32} {k0 : Int32} {k1 : Int32} (h : fW_isRead_J511   S i8 k0 k1 = some out) : xG K X S 511 [(0, xr K 6 0), (8, .int i8)] [.int k0, .int k1] := by
  unfold fW_isRead_J511 at h
  refine g_icmp_ne hX 537 dL_isRead_511 (by decide) (fun hc => ?_) (fun hc => ?_)
  · have h := xif_f hc h
    refine g_iconst (v := (0 : Int32)) hX dL_isRead_537 (by decide) ?_
    obtain ⟨hz, h⟩ := xne_inv h
    exact g_zretN hX hM hz (by rw [← Option.some.inj h]) dL_isRead_538
  · have h := xif_t hc h
    refine g_aload_n hX dL_isRead_514 rfl 0 rfl ?_
    refine g_iload hX dL_isRead_515 1 rfl ?_
    obtain ⟨S1, r2, hcS1, h⟩ := xbI_inv h
    refine g_callV hX hR hV (fun l => c6_read (l := l) hX.vc hV hcS1) xc9_33 rfl ⟨by decide, by decide⟩ rfl rfl (Nat.le_of_ble_eq_true rfl) dL_isRead_517 ?_
    refine g_iconst (v := (-1 : Int32)) hX dL_isRead_520 (by decide) ?_
    refine g_icmp_ne hX 537 dL_isRead_521 (by decide) (fun hc => ?_) (fun hc => ?_)
    · have h := xif_f hc h
      refine g_iconst (v := (0 : Int32)) hX dL_isRead_537 (by decide) ?_
      obtain ⟨hz, h⟩ := xne_inv h
      exact g_zretN hX hM hz (by rw [← Option.some.inj h]) dL_isRead_538
    · have h := xif_t hc h
      refine g_aload_n hX dL_isRead_524 rfl 0 rfl ?_
      refine g_iconst (v := (-1 : Int32)) hX dL_isRead_525 (by decide) ?_
      obtain ⟨S3, r4, hcS3, h⟩ := xbI_inv h
      refine g_callV hX hR hV (fun l => c6_read (l := l) hX.vc hV hcS3) xc9_33 rfl ⟨by decide, by decide⟩ rfl rfl (Nat.le_of_ble_eq_true rfl) dL_isRead_526 ?_
      refine g_iconst (v := (-1 : Int32)) hX dL_isRead_529 (by decide) ?_
      refine g_icmp_ne hX 537 dL_isRead_530 (by decide) (fun hc => ?_) (fun hc => ?_)
      · have h := xif_f hc h
        refine g_iconst (v := (0 : Int32)) hX dL_isRead_537 (by decide) ?_
        obtain ⟨hz, h⟩ := xne_inv h
        exact g_zretN hX hM hz (by rw [← Option.some.inj h]) dL_isRead_538
      · have h := xif_t hc h
        refine g_iconst (v := (1 : Int32)) hX dL_isRead_533 (by decide) ?_
        refine g_goto hX 538 dL_isRead_534 (by decide) ?_
        obtain ⟨hz, h⟩ := xne_inv h
        exact g_zretN hX hM hz (by rw [← Option.some.inj h]) dL_isRead_538
set_option maxRecDepth 100000 in
theorem sfW_isRead_J509 {K0 K : xK} {ρ : xSt → xSt} {X : xX} {out : xR} {rc rs : Nat} (hX : xOK K X RL cL_isRead 20) (hM : xMN K0 K ρ X (ρ out.1, out.2) (some .boolean) rc rs) (hR : xRm X 3 58) (hV : (6, 0) ∈ xvl K) (hW0 : (33, 0) ∈ xvl K) (hW1 : (33, 1) ∈ xvl K)  {S : xSt} {i8 : Int32} {i13 : Int32} {k0 : Int32} (h : fW_isRead_J509   S i8 i13 k0 = some out) : xG K X S 509 [(0, xr K 6 0), (8, .int i8), (13, .int i13)] [.int k0] := by
  unfold fW_isRead_J509 at h
  refine g_iload hX dL_isRead_509 2 rfl ?_
  exact g_sub [0, 1] (by rfl) (sfW_isRead_J511 hX hM hR hV hW0 hW1 h)
set_option maxRecDepth 100000 in
theorem sfW_isRead_J475 {K0 K : xK} {ρ : xSt → xSt} {X : xX} {out : xR} {rc rs : Nat} (hX : xOK K X RL cL_isRead 20) (hM : xMN K0 K ρ X (ρ out.1, out.2) (some .boolean) rc rs) (hR : xRm X 3 58) (hV : (6, 0) ∈ xvl K) (hW0 : (33, 0) ∈ xvl K) (hW1 : (33, 1) ∈ xvl K)  {S : xSt} {i8 : Int32} {i13 : Int32} {k0 : Int32} (h : fW_isRead_J475   S i8 i13 k0 = some out) : xG K X S 475 [(0, xr K 6 0), (8, .int i8), (13, .int i13)] [.int k0] := by
  unfold fW_isRead_J475 at h
  refine g_istore (lv2 := [(14, .int k0), (0, xr K 6 0), (8, .int i8), (13, .int i13)]) hX dL_isRead_475 (by decide) rfl ?_
  refine g_iload hX dL_isRead_477 0 rfl ?_
  refine g_if_eq hX 537 dL_isRead_479 (by decide) (fun hc => ?_) (fun hc => ?_)
  · have h := xif_t hc h
    refine g_iconst (v := (0 : Int32)) hX dL_isRead_537 (by decide) ?_
    obtain ⟨hz, h⟩ := xne_inv h
    exact g_zretN hX hM hz (by rw [← Option.some.inj h]) dL_isRead_538
  · have h := xif_f hc h
    refine g_aload_n hX dL_isRead_482 rfl 1 rfl ?_
    refine g_iconst (v := (5 : Int32)) hX dL_isRead_483 (by decide) ?_
    obtain ⟨S1, r2, hcS1, h⟩ := xbI_inv h
    refine g_callV hX hR hV (fun l => c6_reading (l := l) hX.vc hV hcS1) xc9_36 rfl ⟨by decide, by decide⟩ rfl rfl (Nat.le_of_ble_eq_true rfl) dL_isRead_484 ?_
    refine g_iload hX dL_isRead_487 3 rfl ?_
    refine g_iload hX dL_isRead_489 2 rfl ?_
    refine g_icmp_ne hX 509 dL_isRead_491 (by decide) (fun hc => ?_) (fun hc => ?_)
    · have h := xif_f hc h
      exact g_sub [1, 2, 3] (by rfl) (sfW_isRead_J509 hX hM hR hV hW0 hW1 h)
    · have h := xif_t hc h
      refine g_iload hX dL_isRead_494 2 rfl ?_
      refine g_aload_n hX dL_isRead_496 rfl 1 rfl ?_
      refine g_iconst (v := (0 : Int32)) hX dL_isRead_497 (by decide) ?_
      obtain ⟨S3, r4, hcS3, h⟩ := xbI_inv h
      refine g_callV hX hR hV (fun l => c6_count (l := l) hX.vc hV hcS3) xc9_8 rfl ⟨by decide, by decide⟩ rfl rfl (Nat.le_of_ble_eq_true rfl) dL_isRead_498 ?_
      refine g_icmp_ne hX 509 dL_isRead_501 (by decide) (fun hc => ?_) (fun hc => ?_)
      · have h := xif_f hc h
        exact g_sub [1, 2, 3] (by rfl) (sfW_isRead_J509 hX hM hR hV hW0 hW1 h)
      · have h := xif_t hc h
        refine g_bipush (v := (-6 : Int32)) hX dL_isRead_504 (by decide) ?_
        refine g_goto hX 511 dL_isRead_506 (by decide) ?_
        exact g_sub [1, 2] (by rfl) (sfW_isRead_J511 hX hM hR hV hW0 hW1 h)
set_option maxRecDepth 100000 in
theorem sfW_isRead_J474 {K0 K : xK} {ρ : xSt → xSt} {X : xX} {out : xR} {rc rs : Nat} (hX : xOK K X RL cL_isRead 20) (hM : xMN K0 K ρ X (ρ out.1, out.2) (some .boolean) rc rs) (hR : xRm X 3 58) (hV : (6, 0) ∈ xvl K) (hW0 : (33, 0) ∈ xvl K) (hW1 : (33, 1) ∈ xvl K)  {S : xSt} {i8 : Int32} {i13 : Int32} (h : fW_isRead_J474   S i8 i13 = some out) : xG K X S 474 [(0, xr K 6 0), (8, .int i8), (13, .int i13)] [] := by
  unfold fW_isRead_J474 at h
  refine g_iconst (v := (0 : Int32)) hX dL_isRead_474 (by decide) ?_
  exact sfW_isRead_J475 hX hM hR hV hW0 hW1 h
set_option maxRecDepth 100000 in
theorem sfW_isRead_J420 {K0 K : xK} {ρ : xSt → xSt} {X : xX} {out : xR} {rc rs : Nat} (hX : xOK K X RL cL_isRead 20) (hM : xMN K0 K ρ X (ρ out.1, out.2) (some .boolean) rc rs) (hR : xRm X 3 58) (hV : (6, 0) ∈ xvl K) (hW0 : (33, 0) ∈ xvl K) (hW1 : (33, 1) ∈ xvl K)  {S : xSt} {i5 : Int32} {i8 : Int32} {i9 : Int32} {i10 : Int32} {i11 : Int32} {i13 : Int32} (h : fW_isRead_J420   S i5 i8 i9 i10 i11 i13 = some out) : xG K X S 420 [(0, xr K 6 0), (5, .int i5), (8, .int i8), (9, .int i9), (10, .int i10), (11, .int i11), (13, .int i13)] [] := by
  unfold fW_isRead_J420 at h
  refine g_aload_n hX dL_isRead_420 rfl 0 rfl ?_
  refine g_iconst (v := (0 : Int32)) hX dL_isRead_421 (by decide) ?_
  obtain ⟨S1, r2, hcS1, h⟩ := xbI_inv h
  refine g_callV hX hR hV (fun l => c6_reading (l := l) hX.vc hV hcS1) xc9_36 rfl ⟨by decide, by decide⟩ rfl rfl (Nat.le_of_ble_eq_true rfl) dL_isRead_422 ?_
  refine g_iload hX dL_isRead_425 2 rfl ?_
  refine g_icmp_ne hX 474 dL_isRead_427 (by decide) (fun hc => ?_) (fun hc => ?_)
  · have h := xif_f hc h
    exact g_sub [0, 2, 6] (by rfl) (sfW_isRead_J474 hX hM hR hV hW0 hW1 h)
  · have h := xif_t hc h
    refine g_aload_n hX dL_isRead_430 rfl 0 rfl ?_
    refine g_iconst (v := (1 : Int32)) hX dL_isRead_431 (by decide) ?_
    obtain ⟨S3, r4, hcS3, h⟩ := xbI_inv h
    refine g_callV hX hR hV (fun l => c6_reading (l := l) hX.vc hV hcS3) xc9_36 rfl ⟨by decide, by decide⟩ rfl rfl (Nat.le_of_ble_eq_true rfl) dL_isRead_432 ?_
    refine g_iload hX dL_isRead_435 4 rfl ?_
    refine g_icmp_ne hX 474 dL_isRead_437 (by decide) (fun hc => ?_) (fun hc => ?_)
    · have h := xif_f hc h
      exact g_sub [0, 2, 6] (by rfl) (sfW_isRead_J474 hX hM hR hV hW0 hW1 h)
    · have h := xif_t hc h
      refine g_aload_n hX dL_isRead_440 rfl 0 rfl ?_
      refine g_iconst (v := (2 : Int32)) hX dL_isRead_441 (by decide) ?_
      obtain ⟨S5, r6, hcS5, h⟩ := xbI_inv h
      refine g_callV hX hR hV (fun l => c6_reading (l := l) hX.vc hV hcS5) xc9_36 rfl ⟨by decide, by decide⟩ rfl rfl (Nat.le_of_ble_eq_true rfl) dL_isRead_442 ?_
      refine g_iload hX dL_isRead_445 5 rfl ?_
      refine g_icmp_ne hX 474 dL_isRead_447 (by decide) (fun hc => ?_) (fun hc => ?_)
      · have h := xif_f hc h
        exact g_sub [0, 2, 6] (by rfl) (sfW_isRead_J474 hX hM hR hV hW0 hW1 h)
      · have h := xif_t hc h
        refine g_aload_n hX dL_isRead_450 rfl 0 rfl ?_
        refine g_iconst (v := (3 : Int32)) hX dL_isRead_451 (by decide) ?_
        obtain ⟨S7, r8, hcS7, h⟩ := xbI_inv h
        refine g_callV hX hR hV (fun l => c6_reading (l := l) hX.vc hV hcS7) xc9_36 rfl ⟨by decide, by decide⟩ rfl rfl (Nat.le_of_ble_eq_true rfl) dL_isRead_452 ?_
        refine g_iload hX dL_isRead_455 1 rfl ?_
        refine g_icmp_ne hX 474 dL_isRead_457 (by decide) (fun hc => ?_) (fun hc => ?_)
        · have h := xif_f hc h
          exact g_sub [0, 2, 6] (by rfl) (sfW_isRead_J474 hX hM hR hV hW0 hW1 h)
        · have h := xif_t hc h
          refine g_aload_n hX dL_isRead_460 rfl 0 rfl ?_
          refine g_iconst (v := (4 : Int32)) hX dL_isRead_461 (by decide) ?_
          obtain ⟨S9, r10, hcS9, h⟩ := xbI_inv h
          refine g_callV hX hR hV (fun l => c6_reading (l := l) hX.vc hV hcS9) xc9_36 rfl ⟨by decide, by decide⟩ rfl rfl (Nat.le_of_ble_eq_true rfl) dL_isRead_462 ?_
          refine g_iload hX dL_isRead_465 3 rfl ?_
          refine g_icmp_ne hX 474 dL_isRead_467 (by decide) (fun hc => ?_) (fun hc => ?_)
          · have h := xif_f hc h
            exact g_sub [0, 2, 6] (by rfl) (sfW_isRead_J474 hX hM hR hV hW0 hW1 h)
          · have h := xif_t hc h
            refine g_iconst (v := (1 : Int32)) hX dL_isRead_470 (by decide) ?_
            refine g_goto hX 475 dL_isRead_471 (by decide) ?_
            exact g_sub [0, 2, 6] (by rfl) (sfW_isRead_J475 hX hM hR hV hW0 hW1 h)
set_option maxRecDepth 100000 in
theorem sbW_isRead_L382 {K0 K : xK} {ρ : xSt → xSt} {X : xX} {out : xR} {rc rs : Nat} (hX : xOK K X RL cL_isRead 20) (hM : xMN K0 K ρ X (ρ out.1, out.2) (some .boolean) rc rs) (hR : xRm X 3 58) (hV : (6, 0) ∈ xvl K) (hW0 : (33, 0) ∈ xvl K) (hW1 : (33, 1) ∈ xvl K)  {k382 : xSt → Int32 → Int32 → Int32 → Int32 → Int32 → Int32 → Option xR} (hk382 : ∀ (S : xSt) (i5 : Int32) (i8 : Int32) (i9 : Int32) (i10 : Int32) (i11 : Int32) (i13 : Int32), k382 S i5 i8 i9 i10 i11 i13 = some out → xG K X S 382 [(0, xr K 6 0), (5, .int i5), (8, .int i8), (9, .int i9), (10, .int i10), (11, .int i11), (13, .int i13)] []) {S : xSt} {i5 : Int32} {i8 : Int32} {i9 : Int32} {i10 : Int32} {i11 : Int32} {i13 : Int32} (h : bW_isRead_L382   k382 S i5 i8 i9 i10 i11 i13 = some out) : xG K X S 382 [(0, xr K 6 0), (5, .int i5), (8, .int i8), (9, .int i9), (10, .int i10), (11, .int i11), (13, .int i13)] [] := by
  unfold bW_isRead_L382 at h
  refine g_iload hX dL_isRead_382 6 rfl ?_
  refine g_iload hX dL_isRead_384 2 rfl ?_
  refine g_icmp_ge hX 420 dL_isRead_386 (by decide) (fun hc => ?_) (fun hc => ?_)
  · have h := xif_t hc h
    exact sfW_isRead_J420 hX hM hR hV hW0 hW1 h
  · have h := xif_f hc h
    refine g_iload hX dL_isRead_389 6 rfl ?_
    refine g_aload_n hX dL_isRead_391 rfl 0 rfl ?_
    refine g_iconst (v := (0 : Int32)) hX dL_isRead_392 (by decide) ?_
    obtain ⟨S1, r2, hcS1, h⟩ := xbI_inv h
    refine g_callV hX hR hV (fun l => c6_count (l := l) hX.vc hV hcS1) xc9_8 rfl ⟨by decide, by decide⟩ rfl rfl (Nat.le_of_ble_eq_true rfl) dL_isRead_393 ?_
    refine g_icmp_ge hX 420 dL_isRead_396 (by decide) (fun hc => ?_) (fun hc => ?_)
    · have h := xif_t hc h
      exact sfW_isRead_J420 hX hM hR hV hW0 hW1 h
    · have h := xif_f hc h
      refine g_aload_n hX dL_isRead_399 rfl 0 rfl ?_
      refine g_iload hX dL_isRead_400 6 rfl ?_
      obtain ⟨S3, r4, hcS3, h⟩ := xbI_inv h
      refine g_callV hX hR hV (fun l => c6_read (l := l) hX.vc hV hcS3) xc9_33 rfl ⟨by decide, by decide⟩ rfl rfl (Nat.le_of_ble_eq_true rfl) dL_isRead_402 ?_
      refine g_aload_n hX dL_isRead_405 rfl 0 rfl ?_
      refine g_iload hX dL_isRead_406 6 rfl ?_
      obtain ⟨S5, r6, hcS5, h⟩ := xbI_inv h
      refine g_callV hX hR hV (fun l => c6_sign (l := l) hX.vc hV hcS5) xc9_14 rfl ⟨by decide, by decide⟩ rfl rfl (Nat.le_of_ble_eq_true rfl) dL_isRead_408 ?_
      refine g_icmp_ne hX 420 dL_isRead_411 (by decide) (fun hc => ?_) (fun hc => ?_)
      · have h := xif_f hc h
        exact sfW_isRead_J420 hX hM hR hV hW0 hW1 h
      · have h := xif_t hc h
        refine g_iinc (v := (i13 + (1 : Int32))) (lv2 := [(13, .int (i13 + (1 : Int32))), (0, xr K 6 0), (5, .int i5), (8, .int i8), (9, .int i9), (10, .int i10), (11, .int i11)]) hX dL_isRead_414 6 rfl rfl (by decide) rfl ?_
        refine g_goto hX 382 dL_isRead_417 (by decide) ?_
        exact g_sub [1, 2, 3, 4, 5, 6, 0] (by rfl) (hk382 _ _ _ _ _ _ _ h)
theorem sfW_isRead_L382 {K0 K : xK} {ρ : xSt → xSt} {X : xX} {out : xR} {rc rs : Nat} (hX : xOK K X RL cL_isRead 20) (hM : xMN K0 K ρ X (ρ out.1, out.2) (some .boolean) rc rs) (hR : xRm X 3 58) (hV : (6, 0) ∈ xvl K) (hW0 : (33, 0) ∈ xvl K) (hW1 : (33, 1) ∈ xvl K)  : ∀ (n : Nat) (S : xSt) (i5 : Int32) (i8 : Int32) (i9 : Int32) (i10 : Int32) (i11 : Int32) (i13 : Int32) (h : fW_isRead_L382   n S i5 i8 i9 i10 i11 i13 = some out), xG K X S 382 [(0, xr K 6 0), (5, .int i5), (8, .int i8), (9, .int i9), (10, .int i10), (11, .int i11), (13, .int i13)] [] := by
  intro n
  induction n with
  | zero => intro S i5 i8 i9 i10 i11 i13 h; cases h
  | succ n ih => intro S i5 i8 i9 i10 i11 i13 h; exact sbW_isRead_L382 hX hM hR hV hW0 hW1  ih h
set_option maxRecDepth 100000 in
theorem sfW_isRead_J379 {K0 K : xK} {ρ : xSt → xSt} {X : xX} {out : xR} {rc rs : Nat} (hX : xOK K X RL cL_isRead 20) (hM : xMN K0 K ρ X (ρ out.1, out.2) (some .boolean) rc rs) (hR : xRm X 3 58) (hV : (6, 0) ∈ xvl K) (hW0 : (33, 0) ∈ xvl K) (hW1 : (33, 1) ∈ xvl K)  {S : xSt} {i5 : Int32} {i8 : Int32} {i9 : Int32} {i10 : Int32} {i11 : Int32} (h : fW_isRead_J379   S i5 i8 i9 i10 i11 = some out) : xG K X S 379 [(0, xr K 6 0), (5, .int i5), (8, .int i8), (9, .int i9), (10, .int i10), (11, .int i11)] [] := by
  unfold fW_isRead_J379 at h
  refine g_iconst (v := (0 : Int32)) hX dL_isRead_379 (by decide) ?_
  refine g_istore (lv2 := [(13, .int (0 : Int32)), (0, xr K 6 0), (5, .int i5), (8, .int i8), (9, .int i9), (10, .int i10), (11, .int i11)]) hX dL_isRead_380 (by decide) rfl ?_
  exact g_sub [1, 2, 3, 4, 5, 6, 0] (by rfl) (sfW_isRead_L382 hX hM hR hV hW0 hW1 _ _ _ _ _ _ _ _ h)
set_option maxRecDepth 100000 in
theorem sfW_isRead_J363 {K0 K : xK} {ρ : xSt → xSt} {X : xX} {out : xR} {rc rs : Nat} (hX : xOK K X RL cL_isRead 20) (hM : xMN K0 K ρ X (ρ out.1, out.2) (some .boolean) rc rs) (hR : xRm X 3 58) (hV : (6, 0) ∈ xvl K) (hW0 : (33, 0) ∈ xvl K) (hW1 : (33, 1) ∈ xvl K)  {S : xSt} {i1 : Int32} {i5 : Int32} {i8 : Int32} {i9 : Int32} {i10 : Int32} {i11 : Int32} {i12 : Int32} (h : fW_isRead_J363   S i1 i5 i8 i9 i10 i11 i12 = some out) : xG K X S 363 [(0, xr K 6 0), (1, .int i1), (5, .int i5), (8, .int i8), (9, .int i9), (10, .int i10), (11, .int i11), (12, .int i12)] [] := by
  unfold fW_isRead_J363 at h
  refine g_iload hX dL_isRead_363 6 rfl ?_
  refine g_if_ne hX 379 dL_isRead_365 (by decide) (fun hc => ?_) (fun hc => ?_)
  · have h := xif_f hc h
    exact g_sub [0, 2, 3, 4, 5, 6] (by rfl) (sfW_isRead_J379 hX hM hR hV hW0 hW1 h)
  · have h := xif_t hc h
    refine g_iload hX dL_isRead_368 7 rfl ?_
    refine g_if_ne hX 379 dL_isRead_370 (by decide) (fun hc => ?_) (fun hc => ?_)
    · have h := xif_f hc h
      exact g_sub [0, 2, 3, 4, 5, 6] (by rfl) (sfW_isRead_J379 hX hM hR hV hW0 hW1 h)
    · have h := xif_t hc h
      refine g_iload_n hX dL_isRead_373 rfl 1 rfl ?_
      refine g_istore (lv2 := [(10, .int i1), (0, xr K 6 0), (1, .int i1), (5, .int i5), (8, .int i8), (9, .int i9), (11, .int i11), (12, .int i12)]) hX dL_isRead_374 (by decide) rfl ?_
      refine g_iconst (v := (2 : Int32)) hX dL_isRead_376 (by decide) ?_
      refine g_istore (lv2 := [(11, .int (2 : Int32)), (10, .int i1), (0, xr K 6 0), (1, .int i1), (5, .int i5), (8, .int i8), (9, .int i9), (12, .int i12)]) hX dL_isRead_377 (by decide) rfl ?_
      exact g_sub [2, 4, 5, 6, 1, 0] (by rfl) (sfW_isRead_J379 hX hM hR hV hW0 hW1 h)
set_option maxRecDepth 100000 in
theorem sfW_isRead_J357 {K0 K : xK} {ρ : xSt → xSt} {X : xX} {out : xR} {rc rs : Nat} (hX : xOK K X RL cL_isRead 20) (hM : xMN K0 K ρ X (ρ out.1, out.2) (some .boolean) rc rs) (hR : xRm X 3 58) (hV : (6, 0) ∈ xvl K) (hW0 : (33, 0) ∈ xvl K) (hW1 : (33, 1) ∈ xvl K) {k55 : xSt → Int32 → Int32 → Int32 → Int32 → Int32 → Int32 → Int32 → Int32 → Int32 → Int32 → Int32 → Option xR} (hk55 : ∀ (S : xSt) (i1 : Int32) (i2 : Int32) (i5 : Int32) (i6 : Int32) (i7 : Int32) (i8 : Int32) (i9 : Int32) (i10 : Int32) (i11 : Int32) (i12 : Int32) (i13 : Int32), k55 S i1 i2 i5 i6 i7 i8 i9 i10 i11 i12 i13 = some out → xG K X S 55 [(0, xr K 6 0), (1, .int i1), (2, .int i2), (3, xr K 33 0), (4, xr K 33 1), (5, .int i5), (6, .int i6), (7, .int i7), (8, .int i8), (9, .int i9), (10, .int i10), (11, .int i11), (12, .int i12), (13, .int i13)] []) {S : xSt} {i1 : Int32} {i2 : Int32} {i5 : Int32} {i6 : Int32} {i7 : Int32} {i8 : Int32} {i9 : Int32} {i10 : Int32} {i11 : Int32} {i12 : Int32} {i13 : Int32} (h : fW_isRead_J357  k55 S i1 i2 i5 i6 i7 i8 i9 i10 i11 i12 i13 = some out) : xG K X S 357 [(0, xr K 6 0), (1, .int i1), (2, .int i2), (3, xr K 33 0), (4, xr K 33 1), (5, .int i5), (6, .int i6), (7, .int i7), (8, .int i8), (9, .int i9), (10, .int i10), (11, .int i11), (12, .int i12), (13, .int i13)] [] := by
  unfold fW_isRead_J357 at h
  refine g_iinc (v := (i13 + (1 : Int32))) (lv2 := [(13, .int (i13 + (1 : Int32))), (0, xr K 6 0), (1, .int i1), (2, .int i2), (3, xr K 33 0), (4, xr K 33 1), (5, .int i5), (6, .int i6), (7, .int i7), (8, .int i8), (9, .int i9), (10, .int i10), (11, .int i11), (12, .int i12)]) hX dL_isRead_357 13 rfl rfl (by decide) rfl ?_
  refine g_goto hX 55 dL_isRead_360 (by decide) ?_
  exact g_sub [1, 2, 3, 4, 5, 6, 7, 8, 9, 10, 11, 12, 13, 0] (by rfl) (hk55 _ _ _ _ _ _ _ _ _ _ _ _ h)
set_option maxRecDepth 100000 in
theorem sfW_isRead_J344 {K0 K : xK} {ρ : xSt → xSt} {X : xX} {out : xR} {rc rs : Nat} (hX : xOK K X RL cL_isRead 20) (hM : xMN K0 K ρ X (ρ out.1, out.2) (some .boolean) rc rs) (hR : xRm X 3 58) (hV : (6, 0) ∈ xvl K) (hW0 : (33, 0) ∈ xvl K) (hW1 : (33, 1) ∈ xvl K) {k55 : xSt → Int32 → Int32 → Int32 → Int32 → Int32 → Int32 → Int32 → Int32 → Int32 → Int32 → Int32 → Option xR} (hk55 : ∀ (S : xSt) (i1 : Int32) (i2 : Int32) (i5 : Int32) (i6 : Int32) (i7 : Int32) (i8 : Int32) (i9 : Int32) (i10 : Int32) (i11 : Int32) (i12 : Int32) (i13 : Int32), k55 S i1 i2 i5 i6 i7 i8 i9 i10 i11 i12 i13 = some out → xG K X S 55 [(0, xr K 6 0), (1, .int i1), (2, .int i2), (3, xr K 33 0), (4, xr K 33 1), (5, .int i5), (6, .int i6), (7, .int i7), (8, .int i8), (9, .int i9), (10, .int i10), (11, .int i11), (12, .int i12), (13, .int i13)] []) {S : xSt} {i1 : Int32} {i2 : Int32} {i6 : Int32} {i7 : Int32} {i8 : Int32} {i9 : Int32} {i10 : Int32} {i11 : Int32} {i12 : Int32} {i13 : Int32} {k0 : Int32} {k1 : Int32} (h : fW_isRead_J344  k55 S i1 i2 i6 i7 i8 i9 i10 i11 i12 i13 k0 k1 = some out) : xG K X S 344 [(0, xr K 6 0), (1, .int i1), (2, .int i2), (3, xr K 33 0), (4, xr K 33 1), (6, .int i6), (7, .int i7), (8, .int i8), (9, .int i9), (10, .int i10), (11, .int i11), (12, .int i12), (13, .int i13)] [.int k0, .int k1] := by
  unfold fW_isRead_J344 at h
  refine g_iadd hX dL_isRead_344 ?_
  refine g_istore (lv2 := [(5, .int (k1 + k0)), (0, xr K 6 0), (1, .int i1), (2, .int i2), (3, xr K 33 0), (4, xr K 33 1), (6, .int i6), (7, .int i7), (8, .int i8), (9, .int i9), (10, .int i10), (11, .int i11), (12, .int i12), (13, .int i13)]) hX dL_isRead_345 (by decide) rfl ?_
  refine g_goto hX 357 dL_isRead_347 (by decide) ?_
  exact g_sub [1, 2, 3, 4, 5, 0, 6, 7, 8, 9, 10, 11, 12, 13] (by rfl) (sfW_isRead_J357 hX hM hR hV hW0 hW1 hk55 h)
set_option maxRecDepth 100000 in
theorem sfW_isRead_J343 {K0 K : xK} {ρ : xSt → xSt} {X : xX} {out : xR} {rc rs : Nat} (hX : xOK K X RL cL_isRead 20) (hM : xMN K0 K ρ X (ρ out.1, out.2) (some .boolean) rc rs) (hR : xRm X 3 58) (hV : (6, 0) ∈ xvl K) (hW0 : (33, 0) ∈ xvl K) (hW1 : (33, 1) ∈ xvl K) {k55 : xSt → Int32 → Int32 → Int32 → Int32 → Int32 → Int32 → Int32 → Int32 → Int32 → Int32 → Int32 → Option xR} (hk55 : ∀ (S : xSt) (i1 : Int32) (i2 : Int32) (i5 : Int32) (i6 : Int32) (i7 : Int32) (i8 : Int32) (i9 : Int32) (i10 : Int32) (i11 : Int32) (i12 : Int32) (i13 : Int32), k55 S i1 i2 i5 i6 i7 i8 i9 i10 i11 i12 i13 = some out → xG K X S 55 [(0, xr K 6 0), (1, .int i1), (2, .int i2), (3, xr K 33 0), (4, xr K 33 1), (5, .int i5), (6, .int i6), (7, .int i7), (8, .int i8), (9, .int i9), (10, .int i10), (11, .int i11), (12, .int i12), (13, .int i13)] []) {S : xSt} {i1 : Int32} {i2 : Int32} {i6 : Int32} {i7 : Int32} {i8 : Int32} {i9 : Int32} {i10 : Int32} {i11 : Int32} {i12 : Int32} {i13 : Int32} {k0 : Int32} (h : fW_isRead_J343  k55 S i1 i2 i6 i7 i8 i9 i10 i11 i12 i13 k0 = some out) : xG K X S 343 [(0, xr K 6 0), (1, .int i1), (2, .int i2), (3, xr K 33 0), (4, xr K 33 1), (6, .int i6), (7, .int i7), (8, .int i8), (9, .int i9), (10, .int i10), (11, .int i11), (12, .int i12), (13, .int i13)] [.int k0] := by
  unfold fW_isRead_J343 at h
  refine g_iconst (v := (0 : Int32)) hX dL_isRead_343 (by decide) ?_
  exact sfW_isRead_J344 hX hM hR hV hW0 hW1 hk55 h
set_option maxRecDepth 100000 in
theorem sfW_isRead_J323 {K0 K : xK} {ρ : xSt → xSt} {X : xX} {out : xR} {rc rs : Nat} (hX : xOK K X RL cL_isRead 20) (hM : xMN K0 K ρ X (ρ out.1, out.2) (some .boolean) rc rs) (hR : xRm X 3 58) (hV : (6, 0) ∈ xvl K) (hW0 : (33, 0) ∈ xvl K) (hW1 : (33, 1) ∈ xvl K) {k55 : xSt → Int32 → Int32 → Int32 → Int32 → Int32 → Int32 → Int32 → Int32 → Int32 → Int32 → Int32 → Option xR} (hk55 : ∀ (S : xSt) (i1 : Int32) (i2 : Int32) (i5 : Int32) (i6 : Int32) (i7 : Int32) (i8 : Int32) (i9 : Int32) (i10 : Int32) (i11 : Int32) (i12 : Int32) (i13 : Int32), k55 S i1 i2 i5 i6 i7 i8 i9 i10 i11 i12 i13 = some out → xG K X S 55 [(0, xr K 6 0), (1, .int i1), (2, .int i2), (3, xr K 33 0), (4, xr K 33 1), (5, .int i5), (6, .int i6), (7, .int i7), (8, .int i8), (9, .int i9), (10, .int i10), (11, .int i11), (12, .int i12), (13, .int i13)] []) {S : xSt} {i1 : Int32} {i2 : Int32} {i5 : Int32} {i6 : Int32} {i7 : Int32} {i8 : Int32} {i10 : Int32} {i11 : Int32} {i12 : Int32} {i13 : Int32} {i15 : Int32} {k0 : Int32} {k1 : Int32} (h : fW_isRead_J323  k55 S i1 i2 i5 i6 i7 i8 i10 i11 i12 i13 i15 k0 k1 = some out) : xG K X S 323 [(0, xr K 6 0), (1, .int i1), (2, .int i2), (3, xr K 33 0), (4, xr K 33 1), (5, .int i5), (6, .int i6), (7, .int i7), (8, .int i8), (10, .int i10), (11, .int i11), (12, .int i12), (13, .int i13), (15, .int i15)] [.int k0, .int k1] := by
  unfold fW_isRead_J323 at h
  refine g_iadd hX dL_isRead_323 ?_
  refine g_istore (lv2 := [(9, .int (k1 + k0)), (0, xr K 6 0), (1, .int i1), (2, .int i2), (3, xr K 33 0), (4, xr K 33 1), (5, .int i5), (6, .int i6), (7, .int i7), (8, .int i8), (10, .int i10), (11, .int i11), (12, .int i12), (13, .int i13), (15, .int i15)]) hX dL_isRead_324 (by decide) rfl ?_
  refine g_iload hX dL_isRead_326 6 rfl ?_
  refine g_iload hX dL_isRead_328 14 rfl ?_
  refine g_if_eq hX 343 dL_isRead_330 (by decide) (fun hc => ?_) (fun hc => ?_)
  · have h := xif_t hc h
    exact g_sub [1, 2, 3, 4, 5, 7, 8, 9, 0, 10, 11, 12, 13] (by rfl) (sfW_isRead_J343 hX hM hR hV hW0 hW1 hk55 h)
  · have h := xif_f hc h
    refine g_iload hX dL_isRead_333 6 rfl ?_
    refine g_iload_n hX dL_isRead_335 rfl 3 rfl ?_
    refine g_icmp_ge hX 343 dL_isRead_336 (by decide) (fun hc => ?_) (fun hc => ?_)
    · have h := xif_t hc h
      exact g_sub [1, 2, 3, 4, 5, 7, 8, 9, 0, 10, 11, 12, 13] (by rfl) (sfW_isRead_J343 hX hM hR hV hW0 hW1 hk55 h)
    · have h := xif_f hc h
      refine g_iconst (v := (1 : Int32)) hX dL_isRead_339 (by decide) ?_
      refine g_goto hX 344 dL_isRead_340 (by decide) ?_
      exact g_sub [1, 2, 3, 4, 5, 7, 8, 9, 0, 10, 11, 12, 13] (by rfl) (sfW_isRead_J344 hX hM hR hV hW0 hW1 hk55 h)
set_option maxRecDepth 100000 in
theorem sfW_isRead_J288 {K0 K : xK} {ρ : xSt → xSt} {X : xX} {out : xR} {rc rs : Nat} (hX : xOK K X RL cL_isRead 20) (hM : xMN K0 K ρ X (ρ out.1, out.2) (some .boolean) rc rs) (hR : xRm X 3 58) (hV : (6, 0) ∈ xvl K) (hW0 : (33, 0) ∈ xvl K) (hW1 : (33, 1) ∈ xvl K) {k55 : xSt → Int32 → Int32 → Int32 → Int32 → Int32 → Int32 → Int32 → Int32 → Int32 → Int32 → Int32 → Option xR} (hk55 : ∀ (S : xSt) (i1 : Int32) (i2 : Int32) (i5 : Int32) (i6 : Int32) (i7 : Int32) (i8 : Int32) (i9 : Int32) (i10 : Int32) (i11 : Int32) (i12 : Int32) (i13 : Int32), k55 S i1 i2 i5 i6 i7 i8 i9 i10 i11 i12 i13 = some out → xG K X S 55 [(0, xr K 6 0), (1, .int i1), (2, .int i2), (3, xr K 33 0), (4, xr K 33 1), (5, .int i5), (6, .int i6), (7, .int i7), (8, .int i8), (9, .int i9), (10, .int i10), (11, .int i11), (12, .int i12), (13, .int i13)] []) {S : xSt} {i1 : Int32} {i2 : Int32} {i5 : Int32} {i6 : Int32} {i7 : Int32} {i8 : Int32} {i9 : Int32} {i10 : Int32} {i11 : Int32} {i12 : Int32} {i13 : Int32} {i15 : Int32} {i16 : Int32} {i18 : Int32} (h : fW_isRead_J288  k55 S i1 i2 i5 i6 i7 i8 i9 i10 i11 i12 i13 i15 i16 i18 = some out) : xG K X S 288 [(0, xr K 6 0), (1, .int i1), (2, .int i2), (3, xr K 33 0), (4, xr K 33 1), (5, .int i5), (6, .int i6), (7, .int i7), (8, .int i8), (9, .int i9), (10, .int i10), (11, .int i11), (12, .int i12), (13, .int i13), (15, .int i15), (16, .int i16), (18, .int i18)] [] := by
  unfold fW_isRead_J288 at h
  refine g_aload_n hX dL_isRead_288 rfl 3 rfl ?_
  refine g_iload hX dL_isRead_289 7 rfl ?_
  refine g_iload hX dL_isRead_291 8 rfl ?_
  obtain ⟨hbj1, h⟩ := xat_inv h
  obtain ⟨S2, eS2, h⟩ := xlet_inv h
  refine g_iast (n := 64) hX hW0 (fun _ => rfl) hbj1 dL_isRead_293 eS2 ?_
  refine g_aload hX dL_isRead_294 4 rfl ?_
  refine g_iload hX dL_isRead_296 7 rfl ?_
  refine g_iload hX dL_isRead_298 16 rfl ?_
  obtain ⟨hbj3, h⟩ := xat_inv h
  obtain ⟨S4, eS4, h⟩ := xlet_inv h
  refine g_iast (n := 64) hX hW1 (fun _ => rfl) hbj3 dL_isRead_300 eS4 ?_
  refine g_iinc (v := (i7 + (1 : Int32))) (lv2 := [(7, .int (i7 + (1 : Int32))), (0, xr K 6 0), (1, .int i1), (2, .int i2), (3, xr K 33 0), (4, xr K 33 1), (5, .int i5), (6, .int i6), (8, .int i8), (9, .int i9), (10, .int i10), (11, .int i11), (12, .int i12), (13, .int i13), (15, .int i15), (16, .int i16), (18, .int i18)]) hX dL_isRead_301 7 rfl rfl (by decide) rfl ?_
  refine g_iload hX dL_isRead_304 8 rfl ?_
  refine g_iload hX dL_isRead_306 16 rfl ?_
  refine g_iadd hX dL_isRead_308 ?_
  refine g_istore (lv2 := [(8, .int (i8 + i18)), (7, .int (i7 + (1 : Int32))), (0, xr K 6 0), (1, .int i1), (2, .int i2), (3, xr K 33 0), (4, xr K 33 1), (5, .int i5), (6, .int i6), (9, .int i9), (10, .int i10), (11, .int i11), (12, .int i12), (13, .int i13), (15, .int i15), (16, .int i16), (18, .int i18)]) hX dL_isRead_309 (by decide) rfl ?_
  refine g_iload hX dL_isRead_311 9 rfl ?_
  refine g_iload hX dL_isRead_313 15 rfl ?_
  refine g_if_eq hX 322 dL_isRead_315 (by decide) (fun hc => ?_) (fun hc => ?_)
  · have h := xif_t hc h
    refine g_iconst (v := (0 : Int32)) hX dL_isRead_322 (by decide) ?_
    exact g_sub [2, 3, 4, 5, 6, 7, 8, 1, 0, 10, 11, 12, 13, 14] (by rfl) (sfW_isRead_J323 hX hM hR hV hW0 hW1 hk55 h)
  · have h := xif_f hc h
    refine g_iconst (v := (1 : Int32)) hX dL_isRead_318 (by decide) ?_
    refine g_goto hX 323 dL_isRead_319 (by decide) ?_
    exact g_sub [2, 3, 4, 5, 6, 7, 8, 1, 0, 10, 11, 12, 13, 14] (by rfl) (sfW_isRead_J323 hX hM hR hV hW0 hW1 hk55 h)
set_option maxRecDepth 100000 in
theorem sbW_isRead_L252 {K0 K : xK} {ρ : xSt → xSt} {X : xX} {out : xR} {rc rs : Nat} (hX : xOK K X RL cL_isRead 20) (hM : xMN K0 K ρ X (ρ out.1, out.2) (some .boolean) rc rs) (hR : xRm X 3 58) (hV : (6, 0) ∈ xvl K) (hW0 : (33, 0) ∈ xvl K) (hW1 : (33, 1) ∈ xvl K) {k55 : xSt → Int32 → Int32 → Int32 → Int32 → Int32 → Int32 → Int32 → Int32 → Int32 → Int32 → Int32 → Option xR} (hk55 : ∀ (S : xSt) (i1 : Int32) (i2 : Int32) (i5 : Int32) (i6 : Int32) (i7 : Int32) (i8 : Int32) (i9 : Int32) (i10 : Int32) (i11 : Int32) (i12 : Int32) (i13 : Int32), k55 S i1 i2 i5 i6 i7 i8 i9 i10 i11 i12 i13 = some out → xG K X S 55 [(0, xr K 6 0), (1, .int i1), (2, .int i2), (3, xr K 33 0), (4, xr K 33 1), (5, .int i5), (6, .int i6), (7, .int i7), (8, .int i8), (9, .int i9), (10, .int i10), (11, .int i11), (12, .int i12), (13, .int i13)] []) {k252 : xSt → Int32 → Int32 → Int32 → Int32 → Int32 → Int32 → Int32 → Int32 → Int32 → Int32 → Int32 → Int32 → Int32 → Int32 → Int32 → Int32 → Option xR} (hk252 : ∀ (S : xSt) (i1 : Int32) (i2 : Int32) (i5 : Int32) (i6 : Int32) (i7 : Int32) (i8 : Int32) (i9 : Int32) (i10 : Int32) (i11 : Int32) (i12 : Int32) (i13 : Int32) (i15 : Int32) (i16 : Int32) (i17 : Int32) (i18 : Int32) (i19 : Int32), k252 S i1 i2 i5 i6 i7 i8 i9 i10 i11 i12 i13 i15 i16 i17 i18 i19 = some out → xG K X S 252 [(0, xr K 6 0), (1, .int i1), (2, .int i2), (3, xr K 33 0), (4, xr K 33 1), (5, .int i5), (6, .int i6), (7, .int i7), (8, .int i8), (9, .int i9), (10, .int i10), (11, .int i11), (12, .int i12), (13, .int i13), (15, .int i15), (16, .int i16), (17, .int i17), (18, .int i18), (19, .int i19)] []) {S : xSt} {i1 : Int32} {i2 : Int32} {i5 : Int32} {i6 : Int32} {i7 : Int32} {i8 : Int32} {i9 : Int32} {i10 : Int32} {i11 : Int32} {i12 : Int32} {i13 : Int32} {i15 : Int32} {i16 : Int32} {i17 : Int32} {i18 : Int32} {i19 : Int32} (h : bW_isRead_L252  k55 k252 S i1 i2 i5 i6 i7 i8 i9 i10 i11 i12 i13 i15 i16 i17 i18 i19 = some out) : xG K X S 252 [(0, xr K 6 0), (1, .int i1), (2, .int i2), (3, xr K 33 0), (4, xr K 33 1), (5, .int i5), (6, .int i6), (7, .int i7), (8, .int i8), (9, .int i9), (10, .int i10), (11, .int i11), (12, .int i12), (13, .int i13), (15, .int i15), (16, .int i16), (17, .int i17), (18, .int i18), (19, .int i19)] [] := by
  unfold bW_isRead_L252 at h
  refine g_iload hX dL_isRead_252 18 rfl ?_
  refine g_iload hX dL_isRead_254 17 rfl ?_
  refine g_icmp_ge hX 288 dL_isRead_256 (by decide) (fun hc => ?_) (fun hc => ?_)
  · have h := xif_t hc h
    exact g_sub [0, 1, 2, 3, 4, 5, 6, 7, 8, 9, 10, 11, 12, 13, 14, 15, 17] (by rfl) (sfW_isRead_J288 hX hM hR hV hW0 hW1 hk55 h)
  · have h := xif_f hc h
    refine g_aload_n hX dL_isRead_259 rfl 0 rfl ?_
    refine g_iload hX dL_isRead_260 8 rfl ?_
    refine g_iload hX dL_isRead_262 18 rfl ?_
    refine g_iadd hX dL_isRead_264 ?_
    obtain ⟨S1, r2, hcS1, h⟩ := xbI_inv h
    refine g_callV hX hR hV (fun l => c6_read (l := l) hX.vc hV hcS1) xc9_33 rfl ⟨by decide, by decide⟩ rfl rfl (Nat.le_of_ble_eq_true rfl) dL_isRead_265 ?_
    refine g_aload_n hX dL_isRead_268 rfl 0 rfl ?_
    refine g_iload hX dL_isRead_269 16 rfl ?_
    refine g_iload hX dL_isRead_271 18 rfl ?_
    refine g_iadd hX dL_isRead_273 ?_
    obtain ⟨S3, r4, hcS3, h⟩ := xbI_inv h
    refine g_callV hX hR hV (fun l => c6_read (l := l) hX.vc hV hcS3) xc9_33 rfl ⟨by decide, by decide⟩ rfl rfl (Nat.le_of_ble_eq_true rfl) dL_isRead_274 ?_
    refine g_icmp_eq hX 282 dL_isRead_277 (by decide) (fun hc => ?_) (fun hc => ?_)
    · have h := xif_t hc h
      refine g_iinc (v := (i19 + (1 : Int32))) (lv2 := [(19, .int (i19 + (1 : Int32))), (0, xr K 6 0), (1, .int i1), (2, .int i2), (3, xr K 33 0), (4, xr K 33 1), (5, .int i5), (6, .int i6), (7, .int i7), (8, .int i8), (9, .int i9), (10, .int i10), (11, .int i11), (12, .int i12), (13, .int i13), (15, .int i15), (16, .int i16), (17, .int i17), (18, .int i18)]) hX dL_isRead_282 18 rfl rfl (by decide) rfl ?_
      refine g_goto hX 252 dL_isRead_285 (by decide) ?_
      exact g_sub [1, 2, 3, 4, 5, 6, 7, 8, 9, 10, 11, 12, 13, 14, 15, 16, 17, 18, 0] (by rfl) (hk252 _ _ _ _ _ _ _ _ _ _ _ _ _ _ _ _ _ h)
    · have h := xif_f hc h
      refine g_iconst (v := (0 : Int32)) hX dL_isRead_280 (by decide) ?_
      obtain ⟨hz, h⟩ := xne_inv h
      exact g_zretN hX hM hz (by rw [← Option.some.inj h]) dL_isRead_281
theorem sfW_isRead_L252 {K0 K : xK} {ρ : xSt → xSt} {X : xX} {out : xR} {rc rs : Nat} (hX : xOK K X RL cL_isRead 20) (hM : xMN K0 K ρ X (ρ out.1, out.2) (some .boolean) rc rs) (hR : xRm X 3 58) (hV : (6, 0) ∈ xvl K) (hW0 : (33, 0) ∈ xvl K) (hW1 : (33, 1) ∈ xvl K) {k55 : xSt → Int32 → Int32 → Int32 → Int32 → Int32 → Int32 → Int32 → Int32 → Int32 → Int32 → Int32 → Option xR} (hk55 : ∀ (S : xSt) (i1 : Int32) (i2 : Int32) (i5 : Int32) (i6 : Int32) (i7 : Int32) (i8 : Int32) (i9 : Int32) (i10 : Int32) (i11 : Int32) (i12 : Int32) (i13 : Int32), k55 S i1 i2 i5 i6 i7 i8 i9 i10 i11 i12 i13 = some out → xG K X S 55 [(0, xr K 6 0), (1, .int i1), (2, .int i2), (3, xr K 33 0), (4, xr K 33 1), (5, .int i5), (6, .int i6), (7, .int i7), (8, .int i8), (9, .int i9), (10, .int i10), (11, .int i11), (12, .int i12), (13, .int i13)] []) : ∀ (n : Nat) (S : xSt) (i1 : Int32) (i2 : Int32) (i5 : Int32) (i6 : Int32) (i7 : Int32) (i8 : Int32) (i9 : Int32) (i10 : Int32) (i11 : Int32) (i12 : Int32) (i13 : Int32) (i15 : Int32) (i16 : Int32) (i17 : Int32) (i18 : Int32) (i19 : Int32) (h : fW_isRead_L252  k55 n S i1 i2 i5 i6 i7 i8 i9 i10 i11 i12 i13 i15 i16 i17 i18 i19 = some out), xG K X S 252 [(0, xr K 6 0), (1, .int i1), (2, .int i2), (3, xr K 33 0), (4, xr K 33 1), (5, .int i5), (6, .int i6), (7, .int i7), (8, .int i8), (9, .int i9), (10, .int i10), (11, .int i11), (12, .int i12), (13, .int i13), (15, .int i15), (16, .int i16), (17, .int i17), (18, .int i18), (19, .int i19)] [] := by
  intro n
  induction n with
  | zero => intro S i1 i2 i5 i6 i7 i8 i9 i10 i11 i12 i13 i15 i16 i17 i18 i19 h; cases h
  | succ n ih => intro S i1 i2 i5 i6 i7 i8 i9 i10 i11 i12 i13 i15 i16 i17 i18 i19 h; exact sbW_isRead_L252 hX hM hR hV hW0 hW1 hk55 ih h
set_option maxRecDepth 100000 in
theorem sfW_isRead_J249 {K0 K : xK} {ρ : xSt → xSt} {X : xX} {out : xR} {rc rs : Nat} (hX : xOK K X RL cL_isRead 20) (hM : xMN K0 K ρ X (ρ out.1, out.2) (some .boolean) rc rs) (hR : xRm X 3 58) (hV : (6, 0) ∈ xvl K) (hW0 : (33, 0) ∈ xvl K) (hW1 : (33, 1) ∈ xvl K) {k55 : xSt → Int32 → Int32 → Int32 → Int32 → Int32 → Int32 → Int32 → Int32 → Int32 → Int32 → Int32 → Option xR} (hk55 : ∀ (S : xSt) (i1 : Int32) (i2 : Int32) (i5 : Int32) (i6 : Int32) (i7 : Int32) (i8 : Int32) (i9 : Int32) (i10 : Int32) (i11 : Int32) (i12 : Int32) (i13 : Int32), k55 S i1 i2 i5 i6 i7 i8 i9 i10 i11 i12 i13 = some out → xG K X S 55 [(0, xr K 6 0), (1, .int i1), (2, .int i2), (3, xr K 33 0), (4, xr K 33 1), (5, .int i5), (6, .int i6), (7, .int i7), (8, .int i8), (9, .int i9), (10, .int i10), (11, .int i11), (12, .int i12), (13, .int i13)] []) {S : xSt} {i1 : Int32} {i2 : Int32} {i5 : Int32} {i6 : Int32} {i7 : Int32} {i8 : Int32} {i9 : Int32} {i10 : Int32} {i11 : Int32} {i12 : Int32} {i13 : Int32} {i15 : Int32} {i16 : Int32} {i17 : Int32} {i18 : Int32} (h : fW_isRead_J249  k55 S i1 i2 i5 i6 i7 i8 i9 i10 i11 i12 i13 i15 i16 i17 i18 = some out) : xG K X S 249 [(0, xr K 6 0), (1, .int i1), (2, .int i2), (3, xr K 33 0), (4, xr K 33 1), (5, .int i5), (6, .int i6), (7, .int i7), (8, .int i8), (9, .int i9), (10, .int i10), (11, .int i11), (12, .int i12), (13, .int i13), (15, .int i15), (16, .int i16), (17, .int i17), (18, .int i18)] [] := by
  unfold fW_isRead_J249 at h
  refine g_iconst (v := (0 : Int32)) hX dL_isRead_249 (by decide) ?_
  refine g_istore (lv2 := [(19, .int (0 : Int32)), (0, xr K 6 0), (1, .int i1), (2, .int i2), (3, xr K 33 0), (4, xr K 33 1), (5, .int i5), (6, .int i6), (7, .int i7), (8, .int i8), (9, .int i9), (10, .int i10), (11, .int i11), (12, .int i12), (13, .int i13), (15, .int i15), (16, .int i16), (17, .int i17), (18, .int i18)]) hX dL_isRead_250 (by decide) rfl ?_
  exact g_sub [1, 2, 3, 4, 5, 6, 7, 8, 9, 10, 11, 12, 13, 14, 15, 16, 17, 18, 0] (by rfl) (sfW_isRead_L252 hX hM hR hV hW0 hW1 hk55 _ _ _ _ _ _ _ _ _ _ _ _ _ _ _ _ _ _ h)
set_option maxRecDepth 100000 in
theorem sfW_isRead_J227 {K0 K : xK} {ρ : xSt → xSt} {X : xX} {out : xR} {rc rs : Nat} (hX : xOK K X RL cL_isRead 20) (hM : xMN K0 K ρ X (ρ out.1, out.2) (some .boolean) rc rs) (hR : xRm X 3 58) (hV : (6, 0) ∈ xvl K) (hW0 : (33, 0) ∈ xvl K) (hW1 : (33, 1) ∈ xvl K) {k55 : xSt → Int32 → Int32 → Int32 → Int32 → Int32 → Int32 → Int32 → Int32 → Int32 → Int32 → Int32 → Option xR} (hk55 : ∀ (S : xSt) (i1 : Int32) (i2 : Int32) (i5 : Int32) (i6 : Int32) (i7 : Int32) (i8 : Int32) (i9 : Int32) (i10 : Int32) (i11 : Int32) (i12 : Int32) (i13 : Int32), k55 S i1 i2 i5 i6 i7 i8 i9 i10 i11 i12 i13 = some out → xG K X S 55 [(0, xr K 6 0), (1, .int i1), (2, .int i2), (3, xr K 33 0), (4, xr K 33 1), (5, .int i5), (6, .int i6), (7, .int i7), (8, .int i8), (9, .int i9), (10, .int i10), (11, .int i11), (12, .int i12), (13, .int i13)] []) {S : xSt} {i1 : Int32} {i2 : Int32} {i5 : Int32} {i6 : Int32} {i7 : Int32} {i8 : Int32} {i9 : Int32} {i10 : Int32} {i11 : Int32} {i12 : Int32} {i13 : Int32} {i14 : Int32} {i15 : Int32} {i16 : Int32} {i17 : Int32} {k0 : Int32} (h : fW_isRead_J227  k55 S i1 i2 i5 i6 i7 i8 i9 i10 i11 i12 i13 i14 i15 i16 i17 k0 = some out) : xG K X S 227 [(0, xr K 6 0), (1, .int i1), (2, .int i2), (3, xr K 33 0), (4, xr K 33 1), (5, .int i5), (6, .int i6), (7, .int i7), (8, .int i8), (9, .int i9), (10, .int i10), (11, .int i11), (12, .int i12), (13, .int i13), (14, .int i14), (15, .int i15), (16, .int i16), (17, .int i17)] [.int k0] := by
  unfold fW_isRead_J227 at h
  refine g_istore (lv2 := [(18, .int k0), (0, xr K 6 0), (1, .int i1), (2, .int i2), (3, xr K 33 0), (4, xr K 33 1), (5, .int i5), (6, .int i6), (7, .int i7), (8, .int i8), (9, .int i9), (10, .int i10), (11, .int i11), (12, .int i12), (13, .int i13), (14, .int i14), (15, .int i15), (16, .int i16), (17, .int i17)]) hX dL_isRead_227 (by decide) rfl ?_
  refine g_iload hX dL_isRead_229 15 rfl ?_
  refine g_bipush (v := (8 : Int32)) hX dL_isRead_231 (by decide) ?_
  refine g_icmp_ge hX 249 dL_isRead_233 (by decide) (fun hc => ?_) (fun hc => ?_)
  · have h := xif_t hc h
    exact g_sub [1, 2, 3, 4, 5, 6, 7, 8, 9, 10, 11, 12, 13, 14, 16, 17, 18, 0] (by rfl) (sfW_isRead_J249 hX hM hR hV hW0 hW1 hk55 h)
  · have h := xif_f hc h
    refine g_aload_n hX dL_isRead_236 rfl 1 rfl ?_
    refine g_iload hX dL_isRead_237 9 rfl ?_
    obtain ⟨S1, r2, hcS1, h⟩ := xbI_inv h
    refine g_callV hX hR hV (fun l => c6_read (l := l) hX.vc hV hcS1) xc9_33 rfl ⟨by decide, by decide⟩ rfl rfl (Nat.le_of_ble_eq_true rfl) dL_isRead_239 ?_
    refine g_iload hX dL_isRead_242 15 rfl ?_
    refine g_icmp_eq hX 249 dL_isRead_244 (by decide) (fun hc => ?_) (fun hc => ?_)
    · have h := xif_t hc h
      exact g_sub [1, 2, 3, 4, 5, 6, 7, 8, 9, 10, 11, 12, 13, 14, 16, 17, 18, 0] (by rfl) (sfW_isRead_J249 hX hM hR hV hW0 hW1 hk55 h)
    · have h := xif_f hc h
      refine g_iconst (v := (0 : Int32)) hX dL_isRead_247 (by decide) ?_
      obtain ⟨hz, h⟩ := xne_inv h
      exact g_zretN hX hM hz (by rw [← Option.some.inj h]) dL_isRead_248
set_option maxRecDepth 100000 in
theorem sfW_isRead_J201 {K0 K : xK} {ρ : xSt → xSt} {X : xX} {out : xR} {rc rs : Nat} (hX : xOK K X RL cL_isRead 20) (hM : xMN K0 K ρ X (ρ out.1, out.2) (some .boolean) rc rs) (hR : xRm X 3 58) (hV : (6, 0) ∈ xvl K) (hW0 : (33, 0) ∈ xvl K) (hW1 : (33, 1) ∈ xvl K) {k55 : xSt → Int32 → Int32 → Int32 → Int32 → Int32 → Int32 → Int32 → Int32 → Int32 → Int32 → Int32 → Option xR} (hk55 : ∀ (S : xSt) (i1 : Int32) (i2 : Int32) (i5 : Int32) (i6 : Int32) (i7 : Int32) (i8 : Int32) (i9 : Int32) (i10 : Int32) (i11 : Int32) (i12 : Int32) (i13 : Int32), k55 S i1 i2 i5 i6 i7 i8 i9 i10 i11 i12 i13 = some out → xG K X S 55 [(0, xr K 6 0), (1, .int i1), (2, .int i2), (3, xr K 33 0), (4, xr K 33 1), (5, .int i5), (6, .int i6), (7, .int i7), (8, .int i8), (9, .int i9), (10, .int i10), (11, .int i11), (12, .int i12), (13, .int i13)] []) {S : xSt} {i1 : Int32} {i2 : Int32} {i5 : Int32} {i6 : Int32} {i7 : Int32} {i8 : Int32} {i9 : Int32} {i10 : Int32} {i11 : Int32} {i12 : Int32} {i13 : Int32} {i14 : Int32} {i15 : Int32} {i16 : Int32} {k0 : Int32} (h : fW_isRead_J201  k55 S i1 i2 i5 i6 i7 i8 i9 i10 i11 i12 i13 i14 i15 i16 k0 = some out) : xG K X S 201 [(0, xr K 6 0), (1, .int i1), (2, .int i2), (3, xr K 33 0), (4, xr K 33 1), (5, .int i5), (6, .int i6), (7, .int i7), (8, .int i8), (9, .int i9), (10, .int i10), (11, .int i11), (12, .int i12), (13, .int i13), (14, .int i14), (15, .int i15), (16, .int i16)] [.int k0] := by
  unfold fW_isRead_J201 at h
  refine g_istore (lv2 := [(17, .int k0), (0, xr K 6 0), (1, .int i1), (2, .int i2), (3, xr K 33 0), (4, xr K 33 1), (5, .int i5), (6, .int i6), (7, .int i7), (8, .int i8), (9, .int i9), (10, .int i10), (11, .int i11), (12, .int i12), (13, .int i13), (14, .int i14), (15, .int i15), (16, .int i16)]) hX dL_isRead_201 (by decide) rfl ?_
  refine g_iload hX dL_isRead_203 15 rfl ?_
  refine g_bipush (v := (8 : Int32)) hX dL_isRead_205 (by decide) ?_
  refine g_icmp_ge hX 214 dL_isRead_207 (by decide) (fun hc => ?_) (fun hc => ?_)
  · have h := xif_t hc h
    refine g_aload hX dL_isRead_214 5 rfl ?_
    refine g_iload hX dL_isRead_216 7 rfl ?_
    refine g_iload hX dL_isRead_218 15 rfl ?_
    refine g_iadd hX dL_isRead_220 ?_
    refine g_bipush (v := (10 : Int32)) hX dL_isRead_221 (by decide) ?_
    refine g_isub hX dL_isRead_223 ?_
    obtain ⟨hbj1, h⟩ := xat_inv h
    refine g_iald (n := 64) hX hW1 rfl hbj1 dL_isRead_224 ?_
    refine g_iconst (v := (1 : Int32)) hX dL_isRead_225 (by decide) ?_
    refine g_iadd hX dL_isRead_226 ?_
    exact g_sub [1, 2, 3, 4, 5, 6, 7, 8, 9, 10, 11, 12, 13, 14, 15, 16, 17, 0] (by rfl) (sfW_isRead_J227 hX hM hR hV hW0 hW1 hk55 h)
  · have h := xif_f hc h
    refine g_iconst (v := (1 : Int32)) hX dL_isRead_210 (by decide) ?_
    refine g_goto hX 227 dL_isRead_211 (by decide) ?_
    exact g_sub [1, 2, 3, 4, 5, 6, 7, 8, 9, 10, 11, 12, 13, 14, 15, 16, 17, 0] (by rfl) (sfW_isRead_J227 hX hM hR hV hW0 hW1 hk55 h)
set_option maxRecDepth 100000 in
theorem sfW_isRead_J179 {K0 K : xK} {ρ : xSt → xSt} {X : xX} {out : xR} {rc rs : Nat} (hX : xOK K X RL cL_isRead 20) (hM : xMN K0 K ρ X (ρ out.1, out.2) (some .boolean) rc rs) (hR : xRm X 3 58) (hV : (6, 0) ∈ xvl K) (hW0 : (33, 0) ∈ xvl K) (hW1 : (33, 1) ∈ xvl K) {k55 : xSt → Int32 → Int32 → Int32 → Int32 → Int32 → Int32 → Int32 → Int32 → Int32 → Int32 → Int32 → Option xR} (hk55 : ∀ (S : xSt) (i1 : Int32) (i2 : Int32) (i5 : Int32) (i6 : Int32) (i7 : Int32) (i8 : Int32) (i9 : Int32) (i10 : Int32) (i11 : Int32) (i12 : Int32) (i13 : Int32), k55 S i1 i2 i5 i6 i7 i8 i9 i10 i11 i12 i13 = some out → xG K X S 55 [(0, xr K 6 0), (1, .int i1), (2, .int i2), (3, xr K 33 0), (4, xr K 33 1), (5, .int i5), (6, .int i6), (7, .int i7), (8, .int i8), (9, .int i9), (10, .int i10), (11, .int i11), (12, .int i12), (13, .int i13)] []) {S : xSt} {i1 : Int32} {i2 : Int32} {i5 : Int32} {i6 : Int32} {i7 : Int32} {i8 : Int32} {i9 : Int32} {i10 : Int32} {i11 : Int32} {i12 : Int32} {i13 : Int32} {i14 : Int32} {i15 : Int32} {i16 : Int32} (h : fW_isRead_J179  k55 S i1 i2 i5 i6 i7 i8 i9 i10 i11 i12 i13 i14 i15 i16 = some out) : xG K X S 179 [(0, xr K 6 0), (1, .int i1), (2, .int i2), (3, xr K 33 0), (4, xr K 33 1), (5, .int i5), (6, .int i6), (7, .int i7), (8, .int i8), (9, .int i9), (10, .int i10), (11, .int i11), (12, .int i12), (13, .int i13), (14, .int i14), (15, .int i15), (16, .int i16)] [] := by
  unfold fW_isRead_J179 at h
  refine g_iload hX dL_isRead_179 14 rfl ?_
  refine g_bipush (v := (8 : Int32)) hX dL_isRead_181 (by decide) ?_
  refine g_icmp_ge hX 191 dL_isRead_183 (by decide) (fun hc => ?_) (fun hc => ?_)
  · have h := xif_t hc h
    refine g_aload_n hX dL_isRead_191 rfl 3 rfl ?_
    refine g_iload hX dL_isRead_192 6 rfl ?_
    refine g_iload hX dL_isRead_194 14 rfl ?_
    refine g_iadd hX dL_isRead_196 ?_
    refine g_bipush (v := (10 : Int32)) hX dL_isRead_197 (by decide) ?_
    refine g_isub hX dL_isRead_199 ?_
    obtain ⟨hbj1, h⟩ := xat_inv h
    refine g_iald (n := 64) hX hW0 rfl hbj1 dL_isRead_200 ?_
    exact sfW_isRead_J201 hX hM hR hV hW0 hW1 hk55 h
  · have h := xif_f hc h
    refine g_iload hX dL_isRead_186 8 rfl ?_
    refine g_goto hX 201 dL_isRead_188 (by decide) ?_
    exact sfW_isRead_J201 hX hM hR hV hW0 hW1 hk55 h
set_option maxRecDepth 100000 in
theorem sfW_isRead_J112 {K0 K : xK} {ρ : xSt → xSt} {X : xX} {out : xR} {rc rs : Nat} (hX : xOK K X RL cL_isRead 20) (hM : xMN K0 K ρ X (ρ out.1, out.2) (some .boolean) rc rs) (hR : xRm X 3 58) (hV : (6, 0) ∈ xvl K) (hW0 : (33, 0) ∈ xvl K) (hW1 : (33, 1) ∈ xvl K) {k55 : xSt → Int32 → Int32 → Int32 → Int32 → Int32 → Int32 → Int32 → Int32 → Int32 → Int32 → Int32 → Option xR} (hk55 : ∀ (S : xSt) (i1 : Int32) (i2 : Int32) (i5 : Int32) (i6 : Int32) (i7 : Int32) (i8 : Int32) (i9 : Int32) (i10 : Int32) (i11 : Int32) (i12 : Int32) (i13 : Int32), k55 S i1 i2 i5 i6 i7 i8 i9 i10 i11 i12 i13 = some out → xG K X S 55 [(0, xr K 6 0), (1, .int i1), (2, .int i2), (3, xr K 33 0), (4, xr K 33 1), (5, .int i5), (6, .int i6), (7, .int i7), (8, .int i8), (9, .int i9), (10, .int i10), (11, .int i11), (12, .int i12), (13, .int i13)] []) {S : xSt} {i1 : Int32} {i2 : Int32} {i5 : Int32} {i6 : Int32} {i7 : Int32} {i8 : Int32} {i9 : Int32} {i10 : Int32} {i11 : Int32} {i12 : Int32} {i13 : Int32} {i14 : Int32} {i15 : Int32} {k0 : Int32} (h : fW_isRead_J112  k55 S i1 i2 i5 i6 i7 i8 i9 i10 i11 i12 i13 i14 i15 k0 = some out) : xG K X S 112 [(0, xr K 6 0), (1, .int i1), (2, .int i2), (3, xr K 33 0), (4, xr K 33 1), (5, .int i5), (6, .int i6), (7, .int i7), (8, .int i8), (9, .int i9), (10, .int i10), (11, .int i11), (12, .int i12), (13, .int i13), (14, .int i14), (15, .int i15)] [.int k0] := by
  unfold fW_isRead_J112 at h
  refine g_istore (lv2 := [(16, .int k0), (0, xr K 6 0), (1, .int i1), (2, .int i2), (3, xr K 33 0), (4, xr K 33 1), (5, .int i5), (6, .int i6), (7, .int i7), (8, .int i8), (9, .int i9), (10, .int i10), (11, .int i11), (12, .int i12), (13, .int i13), (14, .int i14), (15, .int i15)]) hX dL_isRead_112 (by decide) rfl ?_
  refine g_iload hX dL_isRead_114 13 rfl ?_
  refine g_if_eq hX 129 dL_isRead_116 (by decide) (fun hc => ?_) (fun hc => ?_)
  · have h := xif_t hc h
    refine g_iload hX dL_isRead_129 15 rfl ?_
    refine g_bipush (v := (9 : Int32)) hX dL_isRead_131 (by decide) ?_
    refine g_icmp_ne hX 142 dL_isRead_133 (by decide) (fun hc => ?_) (fun hc => ?_)
    · have h := xif_f hc h
      refine g_iload hX dL_isRead_142 15 rfl ?_
      refine g_bipush (v := (8 : Int32)) hX dL_isRead_144 (by decide) ?_
      refine g_icmp_ne hX 160 dL_isRead_146 (by decide) (fun hc => ?_) (fun hc => ?_)
      · have h := xif_f hc h
        refine g_iload hX dL_isRead_160 15 rfl ?_
        refine g_bipush (v := (8 : Int32)) hX dL_isRead_162 (by decide) ?_
        refine g_icmp_lt hX 179 dL_isRead_164 (by decide) (fun hc => ?_) (fun hc => ?_)
        · have h := xif_t hc h
          exact g_sub [1, 2, 3, 4, 5, 6, 7, 8, 9, 10, 11, 12, 13, 14, 15, 16, 0] (by rfl) (sfW_isRead_J179 hX hM hR hV hW0 hW1 hk55 h)
        · have h := xif_f hc h
          refine g_iload hX dL_isRead_167 15 rfl ?_
          refine g_iload hX dL_isRead_169 6 rfl ?_
          refine g_icmp_lt hX 179 dL_isRead_171 (by decide) (fun hc => ?_) (fun hc => ?_)
          · have h := xif_t hc h
            exact g_sub [1, 2, 3, 4, 5, 6, 7, 8, 9, 10, 11, 12, 13, 14, 15, 16, 0] (by rfl) (sfW_isRead_J179 hX hM hR hV hW0 hW1 hk55 h)
          · have h := xif_f hc h
            refine g_iload hX dL_isRead_174 0 rfl ?_
            refine g_if_eq hX 350 dL_isRead_176 (by decide) (fun hc => ?_) (fun hc => ?_)
            · have h := xif_t hc h
              refine g_iload hX dL_isRead_350 14 rfl ?_
              refine g_istore (lv2 := [(10, .int i13), (16, .int k0), (0, xr K 6 0), (1, .int i1), (2, .int i2), (3, xr K 33 0), (4, xr K 33 1), (5, .int i5), (6, .int i6), (7, .int i7), (8, .int i8), (9, .int i9), (11, .int i11), (12, .int i12), (13, .int i13), (14, .int i14), (15, .int i15)]) hX dL_isRead_352 (by decide) rfl ?_
              refine g_iconst (v := (1 : Int32)) hX dL_isRead_354 (by decide) ?_
              refine g_istore (lv2 := [(11, .int (1 : Int32)), (10, .int i13), (16, .int k0), (0, xr K 6 0), (1, .int i1), (2, .int i2), (3, xr K 33 0), (4, xr K 33 1), (5, .int i5), (6, .int i6), (7, .int i7), (8, .int i8), (9, .int i9), (12, .int i12), (13, .int i13), (14, .int i14), (15, .int i15)]) hX dL_isRead_355 (by decide) rfl ?_
              exact g_sub [3, 4, 5, 6, 7, 8, 9, 10, 11, 12, 1, 0, 13, 14] (by rfl) (sfW_isRead_J357 hX hM hR hV hW0 hW1 hk55 h)
            · have h := xif_f hc h
              exact g_sub [1, 2, 3, 4, 5, 6, 7, 8, 9, 10, 11, 12, 13, 14, 15, 16, 0] (by rfl) (sfW_isRead_J179 hX hM hR hV hW0 hW1 hk55 h)
      · have h := xif_t hc h
        refine g_iload hX dL_isRead_149 8 rfl ?_
        refine g_istore (lv2 := [(6, .int i7), (16, .int k0), (0, xr K 6 0), (1, .int i1), (2, .int i2), (3, xr K 33 0), (4, xr K 33 1), (5, .int i5), (7, .int i7), (8, .int i8), (9, .int i9), (10, .int i10), (11, .int i11), (12, .int i12), (13, .int i13), (14, .int i14), (15, .int i15)]) hX dL_isRead_151 (by decide) rfl ?_
        refine g_bipush (v := (10 : Int32)) hX dL_isRead_153 (by decide) ?_
        refine g_istore (lv2 := [(5, .int (10 : Int32)), (6, .int i7), (16, .int k0), (0, xr K 6 0), (1, .int i1), (2, .int i2), (3, xr K 33 0), (4, xr K 33 1), (7, .int i7), (8, .int i8), (9, .int i9), (10, .int i10), (11, .int i11), (12, .int i12), (13, .int i13), (14, .int i14), (15, .int i15)]) hX dL_isRead_155 (by decide) rfl ?_
        refine g_goto hX 357 dL_isRead_157 (by decide) ?_
        exact g_sub [3, 4, 5, 6, 7, 0, 1, 8, 9, 10, 11, 12, 13, 14] (by rfl) (sfW_isRead_J357 hX hM hR hV hW0 hW1 hk55 h)
    · have h := xif_t hc h
      refine g_iconst (v := (1 : Int32)) hX dL_isRead_136 (by decide) ?_
      refine g_istore (lv2 := [(12, .int (1 : Int32)), (16, .int k0), (0, xr K 6 0), (1, .int i1), (2, .int i2), (3, xr K 33 0), (4, xr K 33 1), (5, .int i5), (6, .int i6), (7, .int i7), (8, .int i8), (9, .int i9), (10, .int i10), (11, .int i11), (13, .int i13), (14, .int i14), (15, .int i15)]) hX dL_isRead_137 (by decide) rfl ?_
      refine g_goto hX 357 dL_isRead_139 (by decide) ?_
      exact g_sub [2, 3, 4, 5, 6, 7, 8, 9, 10, 11, 12, 13, 0, 14] (by rfl) (sfW_isRead_J357 hX hM hR hV hW0 hW1 hk55 h)
  · have h := xif_f hc h
    refine g_iload hX dL_isRead_119 14 rfl ?_
    refine g_istore (lv2 := [(10, .int i13), (16, .int k0), (0, xr K 6 0), (1, .int i1), (2, .int i2), (3, xr K 33 0), (4, xr K 33 1), (5, .int i5), (6, .int i6), (7, .int i7), (8, .int i8), (9, .int i9), (11, .int i11), (12, .int i12), (13, .int i13), (14, .int i14), (15, .int i15)]) hX dL_isRead_121 (by decide) rfl ?_
    refine g_iconst (v := (3 : Int32)) hX dL_isRead_123 (by decide) ?_
    refine g_istore (lv2 := [(11, .int (3 : Int32)), (10, .int i13), (16, .int k0), (0, xr K 6 0), (1, .int i1), (2, .int i2), (3, xr K 33 0), (4, xr K 33 1), (5, .int i5), (6, .int i6), (7, .int i7), (8, .int i8), (9, .int i9), (12, .int i12), (13, .int i13), (14, .int i14), (15, .int i15)]) hX dL_isRead_124 (by decide) rfl ?_
    refine g_goto hX 357 dL_isRead_126 (by decide) ?_
    exact g_sub [3, 4, 5, 6, 7, 8, 9, 10, 11, 12, 1, 0, 13, 14] (by rfl) (sfW_isRead_J357 hX hM hR hV hW0 hW1 hk55 h)
set_option maxRecDepth 100000 in
theorem sfW_isRead_J111 {K0 K : xK} {ρ : xSt → xSt} {X : xX} {out : xR} {rc rs : Nat} (hX : xOK K X RL cL_isRead 20) (hM : xMN K0 K ρ X (ρ out.1, out.2) (some .boolean) rc rs) (hR : xRm X 3 58) (hV : (6, 0) ∈ xvl K) (hW0 : (33, 0) ∈ xvl K) (hW1 : (33, 1) ∈ xvl K) {k55 : xSt → Int32 → Int32 → Int32 → Int32 → Int32 → Int32 → Int32 → Int32 → Int32 → Int32 → Int32 → Option xR} (hk55 : ∀ (S : xSt) (i1 : Int32) (i2 : Int32) (i5 : Int32) (i6 : Int32) (i7 : Int32) (i8 : Int32) (i9 : Int32) (i10 : Int32) (i11 : Int32) (i12 : Int32) (i13 : Int32), k55 S i1 i2 i5 i6 i7 i8 i9 i10 i11 i12 i13 = some out → xG K X S 55 [(0, xr K 6 0), (1, .int i1), (2, .int i2), (3, xr K 33 0), (4, xr K 33 1), (5, .int i5), (6, .int i6), (7, .int i7), (8, .int i8), (9, .int i9), (10, .int i10), (11, .int i11), (12, .int i12), (13, .int i13)] []) {S : xSt} {i1 : Int32} {i2 : Int32} {i5 : Int32} {i6 : Int32} {i7 : Int32} {i8 : Int32} {i9 : Int32} {i10 : Int32} {i11 : Int32} {i12 : Int32} {i13 : Int32} {i14 : Int32} {i15 : Int32} (h : fW_isRead_J111  k55 S i1 i2 i5 i6 i7 i8 i9 i10 i11 i12 i13 i14 i15 = some out) : xG K X S 111 [(0, xr K 6 0), (1, .int i1), (2, .int i2), (3, xr K 33 0), (4, xr K 33 1), (5, .int i5), (6, .int i6), (7, .int i7), (8, .int i8), (9, .int i9), (10, .int i10), (11, .int i11), (12, .int i12), (13, .int i13), (14, .int i14), (15, .int i15)] [] := by
  unfold fW_isRead_J111 at h
  refine g_iconst (v := (0 : Int32)) hX dL_isRead_111 (by decide) ?_
  exact sfW_isRead_J112 hX hM hR hV hW0 hW1 hk55 h
set_option maxRecDepth 100000 in
theorem sfW_isRead_J87 {K0 K : xK} {ρ : xSt → xSt} {X : xX} {out : xR} {rc rs : Nat} (hX : xOK K X RL cL_isRead 20) (hM : xMN K0 K ρ X (ρ out.1, out.2) (some .boolean) rc rs) (hR : xRm X 3 58) (hV : (6, 0) ∈ xvl K) (hW0 : (33, 0) ∈ xvl K) (hW1 : (33, 1) ∈ xvl K) {k55 : xSt → Int32 → Int32 → Int32 → Int32 → Int32 → Int32 → Int32 → Int32 → Int32 → Int32 → Int32 → Option xR} (hk55 : ∀ (S : xSt) (i1 : Int32) (i2 : Int32) (i5 : Int32) (i6 : Int32) (i7 : Int32) (i8 : Int32) (i9 : Int32) (i10 : Int32) (i11 : Int32) (i12 : Int32) (i13 : Int32), k55 S i1 i2 i5 i6 i7 i8 i9 i10 i11 i12 i13 = some out → xG K X S 55 [(0, xr K 6 0), (1, .int i1), (2, .int i2), (3, xr K 33 0), (4, xr K 33 1), (5, .int i5), (6, .int i6), (7, .int i7), (8, .int i8), (9, .int i9), (10, .int i10), (11, .int i11), (12, .int i12), (13, .int i13)] []) {S : xSt} {i1 : Int32} {i2 : Int32} {i5 : Int32} {i6 : Int32} {i7 : Int32} {i8 : Int32} {i9 : Int32} {i10 : Int32} {i11 : Int32} {i12 : Int32} {i13 : Int32} {i14 : Int32} {k0 : Int32} (h : fW_isRead_J87  k55 S i1 i2 i5 i6 i7 i8 i9 i10 i11 i12 i13 i14 k0 = some out) : xG K X S 87 [(0, xr K 6 0), (1, .int i1), (2, .int i2), (3, xr K 33 0), (4, xr K 33 1), (5, .int i5), (6, .int i6), (7, .int i7), (8, .int i8), (9, .int i9), (10, .int i10), (11, .int i11), (12, .int i12), (13, .int i13), (14, .int i14)] [.int k0] := by
  unfold fW_isRead_J87 at h
  refine g_istore (lv2 := [(15, .int k0), (0, xr K 6 0), (1, .int i1), (2, .int i2), (3, xr K 33 0), (4, xr K 33 1), (5, .int i5), (6, .int i6), (7, .int i7), (8, .int i8), (9, .int i9), (10, .int i10), (11, .int i11), (12, .int i12), (13, .int i13), (14, .int i14)]) hX dL_isRead_87 (by decide) rfl ?_
  refine g_iload hX dL_isRead_89 15 rfl ?_
  refine g_iload hX dL_isRead_91 6 rfl ?_
  refine g_icmp_ne hX 111 dL_isRead_93 (by decide) (fun hc => ?_) (fun hc => ?_)
  · have h := xif_f hc h
    exact g_sub [1, 2, 3, 4, 5, 6, 7, 8, 9, 10, 11, 12, 13, 14, 15, 0] (by rfl) (sfW_isRead_J111 hX hM hR hV hW0 hW1 hk55 h)
  · have h := xif_t hc h
    refine g_iload hX dL_isRead_96 0 rfl ?_
    refine g_if_eq hX 111 dL_isRead_98 (by decide) (fun hc => ?_) (fun hc => ?_)
    · have h := xif_t hc h
      exact g_sub [1, 2, 3, 4, 5, 6, 7, 8, 9, 10, 11, 12, 13, 14, 15, 0] (by rfl) (sfW_isRead_J111 hX hM hR hV hW0 hW1 hk55 h)
    · have h := xif_f hc h
      refine g_iload hX dL_isRead_101 6 rfl ?_
      refine g_iload_n hX dL_isRead_103 rfl 3 rfl ?_
      refine g_icmp_ge hX 111 dL_isRead_104 (by decide) (fun hc => ?_) (fun hc => ?_)
      · have h := xif_t hc h
        exact g_sub [1, 2, 3, 4, 5, 6, 7, 8, 9, 10, 11, 12, 13, 14, 15, 0] (by rfl) (sfW_isRead_J111 hX hM hR hV hW0 hW1 hk55 h)
      · have h := xif_f hc h
        refine g_iconst (v := (1 : Int32)) hX dL_isRead_107 (by decide) ?_
        refine g_goto hX 112 dL_isRead_108 (by decide) ?_
        exact g_sub [1, 2, 3, 4, 5, 6, 7, 8, 9, 10, 11, 12, 13, 14, 15, 0] (by rfl) (sfW_isRead_J112 hX hM hR hV hW0 hW1 hk55 h)
set_option maxRecDepth 100000 in
theorem sbW_isRead_L55 {K0 K : xK} {ρ : xSt → xSt} {X : xX} {out : xR} {rc rs : Nat} (hX : xOK K X RL cL_isRead 20) (hM : xMN K0 K ρ X (ρ out.1, out.2) (some .boolean) rc rs) (hR : xRm X 3 58) (hV : (6, 0) ∈ xvl K) (hW0 : (33, 0) ∈ xvl K) (hW1 : (33, 1) ∈ xvl K)  {k55 : xSt → Int32 → Int32 → Int32 → Int32 → Int32 → Int32 → Int32 → Int32 → Int32 → Int32 → Int32 → Option xR} (hk55 : ∀ (S : xSt) (i1 : Int32) (i2 : Int32) (i5 : Int32) (i6 : Int32) (i7 : Int32) (i8 : Int32) (i9 : Int32) (i10 : Int32) (i11 : Int32) (i12 : Int32) (i13 : Int32), k55 S i1 i2 i5 i6 i7 i8 i9 i10 i11 i12 i13 = some out → xG K X S 55 [(0, xr K 6 0), (1, .int i1), (2, .int i2), (3, xr K 33 0), (4, xr K 33 1), (5, .int i5), (6, .int i6), (7, .int i7), (8, .int i8), (9, .int i9), (10, .int i10), (11, .int i11), (12, .int i12), (13, .int i13)] []) {S : xSt} {i1 : Int32} {i2 : Int32} {i5 : Int32} {i6 : Int32} {i7 : Int32} {i8 : Int32} {i9 : Int32} {i10 : Int32} {i11 : Int32} {i12 : Int32} {i13 : Int32} (h : bW_isRead_L55   k55 S i1 i2 i5 i6 i7 i8 i9 i10 i11 i12 i13 = some out) : xG K X S 55 [(0, xr K 6 0), (1, .int i1), (2, .int i2), (3, xr K 33 0), (4, xr K 33 1), (5, .int i5), (6, .int i6), (7, .int i7), (8, .int i8), (9, .int i9), (10, .int i10), (11, .int i11), (12, .int i12), (13, .int i13)] [] := by
  unfold bW_isRead_L55 at h
  refine g_iload hX dL_isRead_55 13 rfl ?_
  refine g_iload_n hX dL_isRead_57 rfl 1 rfl ?_
  refine g_icmp_ge hX 363 dL_isRead_58 (by decide) (fun hc => ?_) (fun hc => ?_)
  · have h := xif_t hc h
    exact g_sub [0, 1, 5, 8, 9, 10, 11, 12] (by rfl) (sfW_isRead_J363 hX hM hR hV hW0 hW1 h)
  · have h := xif_f hc h
    refine g_iload hX dL_isRead_61 11 rfl ?_
    refine g_if_ne hX 363 dL_isRead_63 (by decide) (fun hc => ?_) (fun hc => ?_)
    · have h := xif_f hc h
      exact g_sub [0, 1, 5, 8, 9, 10, 11, 12] (by rfl) (sfW_isRead_J363 hX hM hR hV hW0 hW1 h)
    · have h := xif_t hc h
      refine g_aload_n hX dL_isRead_66 rfl 0 rfl ?_
      refine g_iload hX dL_isRead_67 13 rfl ?_
      refine g_iconst (v := (1 : Int32)) hX dL_isRead_69 (by decide) ?_
      obtain ⟨S1, r2, hcS1, h⟩ := xbI_inv h
      refine g_callV hX hR hV (fun l => c6_ofCode (l := l) hX.vc hV hcS1) xc9_17 rfl ⟨by decide, by decide⟩ rfl rfl (Nat.le_of_ble_eq_true rfl) dL_isRead_70 ?_
      refine g_istore (lv2 := [(14, .int r2), (0, xr K 6 0), (1, .int i1), (2, .int i2), (3, xr K 33 0), (4, xr K 33 1), (5, .int i5), (6, .int i6), (7, .int i7), (8, .int i8), (9, .int i9), (10, .int i10), (11, .int i11), (12, .int i12), (13, .int i13)]) hX dL_isRead_73 (by decide) rfl ?_
      refine g_iload hX dL_isRead_75 8 rfl ?_
      refine g_iload hX dL_isRead_77 7 rfl ?_
      refine g_icmp_le hX 86 dL_isRead_79 (by decide) (fun hc => ?_) (fun hc => ?_)
      · have h := xif_t hc h
        refine g_iconst (v := (0 : Int32)) hX dL_isRead_86 (by decide) ?_
        exact g_sub [1, 2, 3, 4, 5, 6, 7, 8, 9, 10, 11, 12, 13, 14, 0] (by rfl) (sfW_isRead_J87 hX hM hR hV hW0 hW1 hk55 h)
      · have h := xif_f hc h
        refine g_iconst (v := (1 : Int32)) hX dL_isRead_82 (by decide) ?_
        refine g_goto hX 87 dL_isRead_83 (by decide) ?_
        exact g_sub [1, 2, 3, 4, 5, 6, 7, 8, 9, 10, 11, 12, 13, 14, 0] (by rfl) (sfW_isRead_J87 hX hM hR hV hW0 hW1 hk55 h)
theorem sfW_isRead_L55 {K0 K : xK} {ρ : xSt → xSt} {X : xX} {out : xR} {rc rs : Nat} (hX : xOK K X RL cL_isRead 20) (hM : xMN K0 K ρ X (ρ out.1, out.2) (some .boolean) rc rs) (hR : xRm X 3 58) (hV : (6, 0) ∈ xvl K) (hW0 : (33, 0) ∈ xvl K) (hW1 : (33, 1) ∈ xvl K)  : ∀ (n : Nat) (S : xSt) (i1 : Int32) (i2 : Int32) (i5 : Int32) (i6 : Int32) (i7 : Int32) (i8 : Int32) (i9 : Int32) (i10 : Int32) (i11 : Int32) (i12 : Int32) (i13 : Int32) (h : fW_isRead_L55   n S i1 i2 i5 i6 i7 i8 i9 i10 i11 i12 i13 = some out), xG K X S 55 [(0, xr K 6 0), (1, .int i1), (2, .int i2), (3, xr K 33 0), (4, xr K 33 1), (5, .int i5), (6, .int i6), (7, .int i7), (8, .int i8), (9, .int i9), (10, .int i10), (11, .int i11), (12, .int i12), (13, .int i13)] [] := by
  intro n
  induction n with
  | zero => intro S i1 i2 i5 i6 i7 i8 i9 i10 i11 i12 i13 h; cases h
  | succ n ih => intro S i1 i2 i5 i6 i7 i8 i9 i10 i11 i12 i13 h; exact sbW_isRead_L55 hX hM hR hV hW0 hW1  ih h
set_option maxRecDepth 100000 in
theorem cW_isRead {l : Launch} {K : xK} (hvc : xVC (xvl K)) (hV : (6, 0) ∈ xvl K) (hN : ∀ o, (33, o) ∉ xvl K) {S : xSt} {out : xR} (h : hW_isRead S = some out) : xMetN l K yL_isRead cL_isRead 20 (some .boolean) 3 58 2 128 S [xr K 6 0] out := by
  obtain ⟨out, h9, rfl⟩ := Option.map_eq_some_iff.mp h
  refine xMetN_of RL (xrst S) (by decide +kernel) rfl hvc (fun S9 U9 H9 w => xrst_Wd hN S S9 w) (Nat.le_of_ble_eq_true rfl) ?_
  intro X hX hM hR
  show xG K X S 0 [(0, xr K 6 0)] []
  have h := h9
  unfold fW_isRead at h
  refine g_aload_n hX dL_isRead_0 rfl 0 rfl ?_
  refine g_iconst (v := (1 : Int32)) hX dL_isRead_1 (by decide) ?_
  obtain ⟨S1, r2, hcS1, h⟩ := xbI_inv h
  refine g_callV hX hR hV (fun l => c6_count (l := l) hX.vc hV hcS1) xc9_8 rfl ⟨by decide, by decide⟩ rfl rfl (Nat.le_of_ble_eq_true rfl) dL_isRead_2 ?_
  refine g_istore_n (lv2 := [(1, .int r2), (0, xr K 6 0)]) hX dL_isRead_5 rfl (by decide) rfl ?_
  refine g_iconst (v := (1 : Int32)) hX dL_isRead_6 (by decide) ?_
  refine g_aload_n hX dL_isRead_7 rfl 1 rfl ?_
  refine g_bipush (v := (9 : Int32)) hX dL_isRead_8 (by decide) ?_
  obtain ⟨S3, r4, hcS3, h⟩ := xbI_inv h
  refine g_callV hX hR hV (fun l => c6_count (l := l) hX.vc hV hcS3) xc9_8 rfl ⟨by decide, by decide⟩ rfl rfl (Nat.le_of_ble_eq_true rfl) dL_isRead_10 ?_
  refine g_ishl hX dL_isRead_13 ?_
  refine g_istore_n (lv2 := [(2, .int ((1 : Int32) <<< (r4 &&& 31))), (1, .int r2), (0, xr K 6 0)]) hX dL_isRead_14 rfl (by decide) rfl ?_
  refine g_bipush (v := (64 : Int32)) hX dL_isRead_15 (by decide) ?_
  obtain ⟨S5, eS5, h⟩ := xlet_inv h
  refine g_newa (j := 0) 1 64 hX hM hR (hN 0) (by decide) (by decide) xarI eS5 dL_isRead_17 (fun K1 hE hX hM hR => ?_)
  rw [show xr K 6 0 = xr K1 6 0 from xEx_r hE (by decide)]
  have hV := xEx_in hE hV
  have hW0 := xEx_new hE
  have hN1 := xEx_no hE (hN 1) (by decide)
  refine g_astore_n (lv2 := [(3, xr K1 33 0), (2, .int ((1 : Int32) <<< (r4 &&& 31))), (1, .int r2), (0, xr K1 6 0)]) hX dL_isRead_19 rfl (by decide) rfl ?_
  refine g_bipush (v := (64 : Int32)) hX dL_isRead_20 (by decide) ?_
  obtain ⟨S6, eS6, h⟩ := xlet_inv h
  refine g_newa (j := 1) 0 0 hX hM hR hN1 (by decide) (by decide) xarI eS6 dL_isRead_22 (fun K2 hE hX hM hR => ?_)
  rw [show xr K1 33 0 = xr K2 33 0 from xEx_r hE (by decide)]
  rw [show xr K1 6 0 = xr K2 6 0 from xEx_r hE (by decide)]
  have hV := xEx_in hE hV
  have hW0 := xEx_in hE hW0
  have hW1 := xEx_new hE
  refine g_astore (lv2 := [(4, xr K2 33 1), (3, xr K2 33 0), (2, .int ((1 : Int32) <<< (r4 &&& 31))), (1, .int r2), (0, xr K2 6 0)]) hX dL_isRead_24 (by decide) rfl ?_
  refine g_bipush (v := (10 : Int32)) hX dL_isRead_26 (by decide) ?_
  refine g_istore (lv2 := [(5, .int (10 : Int32)), (4, xr K2 33 1), (3, xr K2 33 0), (2, .int ((1 : Int32) <<< (r4 &&& 31))), (1, .int r2), (0, xr K2 6 0)]) hX dL_isRead_28 (by decide) rfl ?_
  refine g_iconst (v := (0 : Int32)) hX dL_isRead_30 (by decide) ?_
  refine g_istore (lv2 := [(6, .int (0 : Int32)), (5, .int (10 : Int32)), (4, xr K2 33 1), (3, xr K2 33 0), (2, .int ((1 : Int32) <<< (r4 &&& 31))), (1, .int r2), (0, xr K2 6 0)]) hX dL_isRead_31 (by decide) rfl ?_
  refine g_iconst (v := (0 : Int32)) hX dL_isRead_33 (by decide) ?_
  refine g_istore (lv2 := [(7, .int (0 : Int32)), (6, .int (0 : Int32)), (5, .int (10 : Int32)), (4, xr K2 33 1), (3, xr K2 33 0), (2, .int ((1 : Int32) <<< (r4 &&& 31))), (1, .int r2), (0, xr K2 6 0)]) hX dL_isRead_34 (by decide) rfl ?_
  refine g_iconst (v := (0 : Int32)) hX dL_isRead_36 (by decide) ?_
  refine g_istore (lv2 := [(8, .int (0 : Int32)), (7, .int (0 : Int32)), (6, .int (0 : Int32)), (5, .int (10 : Int32)), (4, xr K2 33 1), (3, xr K2 33 0), (2, .int ((1 : Int32) <<< (r4 &&& 31))), (1, .int r2), (0, xr K2 6 0)]) hX dL_isRead_37 (by decide) rfl ?_
  refine g_iconst (v := (0 : Int32)) hX dL_isRead_39 (by decide) ?_
  refine g_istore (lv2 := [(9, .int (0 : Int32)), (8, .int (0 : Int32)), (7, .int (0 : Int32)), (6, .int (0 : Int32)), (5, .int (10 : Int32)), (4, xr K2 33 1), (3, xr K2 33 0), (2, .int ((1 : Int32) <<< (r4 &&& 31))), (1, .int r2), (0, xr K2 6 0)]) hX dL_isRead_40 (by decide) rfl ?_
  refine g_bipush (v := (-6 : Int32)) hX dL_isRead_42 (by decide) ?_
  refine g_istore (lv2 := [(10, .int (-6 : Int32)), (9, .int (0 : Int32)), (8, .int (0 : Int32)), (7, .int (0 : Int32)), (6, .int (0 : Int32)), (5, .int (10 : Int32)), (4, xr K2 33 1), (3, xr K2 33 0), (2, .int ((1 : Int32) <<< (r4 &&& 31))), (1, .int r2), (0, xr K2 6 0)]) hX dL_isRead_44 (by decide) rfl ?_
  refine g_iconst (v := (0 : Int32)) hX dL_isRead_46 (by decide) ?_
  refine g_istore (lv2 := [(11, .int (0 : Int32)), (10, .int (-6 : Int32)), (9, .int (0 : Int32)), (8, .int (0 : Int32)), (7, .int (0 : Int32)), (6, .int (0 : Int32)), (5, .int (10 : Int32)), (4, xr K2 33 1), (3, xr K2 33 0), (2, .int ((1 : Int32) <<< (r4 &&& 31))), (1, .int r2), (0, xr K2 6 0)]) hX dL_isRead_47 (by decide) rfl ?_
  refine g_iconst (v := (0 : Int32)) hX dL_isRead_49 (by decide) ?_
  refine g_istore (lv2 := [(12, .int (0 : Int32)), (11, .int (0 : Int32)), (10, .int (-6 : Int32)), (9, .int (0 : Int32)), (8, .int (0 : Int32)), (7, .int (0 : Int32)), (6, .int (0 : Int32)), (5, .int (10 : Int32)), (4, xr K2 33 1), (3, xr K2 33 0), (2, .int ((1 : Int32) <<< (r4 &&& 31))), (1, .int r2), (0, xr K2 6 0)]) hX dL_isRead_50 (by decide) rfl ?_
  refine g_iconst (v := (0 : Int32)) hX dL_isRead_52 (by decide) ?_
  refine g_istore (lv2 := [(13, .int (0 : Int32)), (12, .int (0 : Int32)), (11, .int (0 : Int32)), (10, .int (-6 : Int32)), (9, .int (0 : Int32)), (8, .int (0 : Int32)), (7, .int (0 : Int32)), (6, .int (0 : Int32)), (5, .int (10 : Int32)), (4, xr K2 33 1), (3, xr K2 33 0), (2, .int ((1 : Int32) <<< (r4 &&& 31))), (1, .int r2), (0, xr K2 6 0)]) hX dL_isRead_53 (by decide) rfl ?_
  exact g_sub [13, 12, 11, 10, 9, 8, 7, 6, 5, 4, 3, 2, 1, 0] (by rfl) (sfW_isRead_L55 hX hM hR hV hW0 hW1 _ _ _ _ _ _ _ _ _ _ _ _ _ h)
set_option maxRecDepth 100000 in
theorem sfW_agree_J95 {K0 K : xK} {ρ : xSt → xSt} {X : xX} {out : xR} {rc rs : Nat} (hX : xOK K X RL cL_agree 3) (hM : xMN K0 K ρ X (ρ out.1, out.2) (some .boolean) rc rs) (hR : xRm X 4 110) (hV : (6, 0) ∈ xvl K)  {S : xSt}  (h : fW_agree_J95   S  = some out) : xG K X S 95 [] [] := by
  unfold fW_agree_J95 at h
  refine g_iconst (v := (1 : Int32)) hX dL_agree_95 (by decide) ?_
  refine g_goto hX 100 dL_agree_96 (by decide) ?_
  obtain ⟨hz, h⟩ := xne_inv h
  exact g_zretN hX hM hz (by rw [← Option.some.inj h]) dL_agree_100
set_option maxRecDepth 100000 in
theorem sfW_agree_J42 {K0 K : xK} {ρ : xSt → xSt} {X : xX} {out : xR} {rc rs : Nat} (hX : xOK K X RL cL_agree 3) (hM : xMN K0 K ρ X (ρ out.1, out.2) (some .boolean) rc rs) (hR : xRm X 4 110) (hV : (6, 0) ∈ xvl K) (hN : ∀ o, (33, o) ∉ xvl K) (hcr : 5 ≤ rc ∧ 320 ≤ rs)  {S : xSt} {i1 : Int32} (h : fW_agree_J42   S i1 = some out) : xG K X S 42 [(0, xr K 6 0), (1, .int i1)] [] := by
  unfold fW_agree_J42 at h
  refine g_aload_n hX dL_agree_42 rfl 0 rfl ?_
  refine g_bipush (v := (6 : Int32)) hX dL_agree_43 (by decide) ?_
  obtain ⟨S1, r2, hcS1, h⟩ := xbI_inv h
  refine g_callV hX hR hV (fun l => c6_count (l := l) hX.vc hV hcS1) xc9_8 rfl ⟨by decide, by decide⟩ rfl rfl (Nat.le_of_ble_eq_true rfl) dL_agree_45 ?_
  refine g_iload_n hX dL_agree_48 rfl 1 rfl ?_
  refine g_icmp_ne hX 99 dL_agree_49 (by decide) (fun hc => ?_) (fun hc => ?_)
  · have h := xif_f hc h
    refine g_iconst (v := (0 : Int32)) hX dL_agree_99 (by decide) ?_
    obtain ⟨hz, h⟩ := xne_inv h
    exact g_zretN hX hM hz (by rw [← Option.some.inj h]) dL_agree_100
  · have h := xif_t hc h
    refine g_aload_n hX dL_agree_52 rfl 0 rfl ?_
    obtain ⟨S3, r4, hcS3, h⟩ := xbI_inv h
    have hR2 := xRm_kA (k := 3) (n := 192) hM hR (by omega) (by omega)
    refine g_callN (mc := 3) (ms := 192) hX hR hR2 (fun l => cW_areCodes (l := l) hX.vc hV hN hcS3) xc9_39 rfl ⟨by decide, by decide⟩ rfl rfl (Nat.le_of_ble_eq_true rfl) dL_agree_53 ?_
    have hX := xOK_kA 3 192 hX
    have hM := xMN_kA (k := 3) (n := 192) (rc2 := rc - 3) (rs2 := rs - 192) hM (by omega) (by omega)
    have hR := hR2
    refine g_if_eq hX 99 dL_agree_56 (by decide) (fun hc => ?_) (fun hc => ?_)
    · have h := xif_t hc h
      refine g_iconst (v := (0 : Int32)) hX dL_agree_99 (by decide) ?_
      obtain ⟨hz, h⟩ := xne_inv h
      exact g_zretN hX hM hz (by rw [← Option.some.inj h]) dL_agree_100
    · have h := xif_f hc h
      refine g_aload_n hX dL_agree_59 rfl 0 rfl ?_
      obtain ⟨S5, r6, hcS5, h⟩ := xbI_inv h
      refine g_callS hX hR (fun l => cW_areEntries (l := l) hX.vc hV hcS5) xc9_43 rfl ⟨by decide, by decide⟩ rfl rfl (Nat.le_of_ble_eq_true rfl) dL_agree_60 ?_
      refine g_if_eq hX 99 dL_agree_63 (by decide) (fun hc => ?_) (fun hc => ?_)
      · have h := xif_t hc h
        refine g_iconst (v := (0 : Int32)) hX dL_agree_99 (by decide) ?_
        obtain ⟨hz, h⟩ := xne_inv h
        exact g_zretN hX hM hz (by rw [← Option.some.inj h]) dL_agree_100
      · have h := xif_f hc h
        refine g_aload_n hX dL_agree_66 rfl 0 rfl ?_
        obtain ⟨S7, r8, hcS7, h⟩ := xbI_inv h
        have hR2 := xRm_kA (k := 2) (n := 128) hM hR (by omega) (by omega)
        refine g_callN (mc := 2) (ms := 128) hX hR hR2 (fun l => cW_isRead (l := l) hX.vc hV hN hcS7) xc9_46 rfl ⟨by decide, by decide⟩ rfl rfl (Nat.le_of_ble_eq_true rfl) dL_agree_67 ?_
        have hX := xOK_kA 2 128 hX
        have hM := xMN_kA (k := 2) (n := 128) (rc2 := rc - 5) (rs2 := rs - 320) hM (by omega) (by omega)
        have hR := hR2
        refine g_if_eq hX 99 dL_agree_70 (by decide) (fun hc => ?_) (fun hc => ?_)
        · have h := xif_t hc h
          refine g_iconst (v := (0 : Int32)) hX dL_agree_99 (by decide) ?_
          obtain ⟨hz, h⟩ := xne_inv h
          exact g_zretN hX hM hz (by rw [← Option.some.inj h]) dL_agree_100
        · have h := xif_f hc h
          refine g_iload_n hX dL_agree_73 rfl 1 rfl ?_
          refine g_if_gt hX 95 dL_agree_74 (by decide) (fun hc => ?_) (fun hc => ?_)
          · have h := xif_t hc h
            exact g_sub [] (by rfl) (sfW_agree_J95 hX hM hR hV h)
          · have h := xif_f hc h
            refine g_aload_n hX dL_agree_77 rfl 0 rfl ?_
            refine g_iconst (v := (5 : Int32)) hX dL_agree_78 (by decide) ?_
            obtain ⟨S9, r10, hcS9, h⟩ := xbI_inv h
            refine g_callV hX hR hV (fun l => c6_reading (l := l) hX.vc hV hcS9) xc9_36 rfl ⟨by decide, by decide⟩ rfl rfl (Nat.le_of_ble_eq_true rfl) dL_agree_79 ?_
            refine g_bipush (v := (-6 : Int32)) hX dL_agree_82 (by decide) ?_
            refine g_icmp_ne hX 99 dL_agree_84 (by decide) (fun hc => ?_) (fun hc => ?_)
            · have h := xif_f hc h
              refine g_iconst (v := (0 : Int32)) hX dL_agree_99 (by decide) ?_
              obtain ⟨hz, h⟩ := xne_inv h
              exact g_zretN hX hM hz (by rw [← Option.some.inj h]) dL_agree_100
            · have h := xif_t hc h
              refine g_aload_n hX dL_agree_87 rfl 0 rfl ?_
              refine g_iconst (v := (2 : Int32)) hX dL_agree_88 (by decide) ?_
              obtain ⟨S11, r12, hcS11, h⟩ := xbI_inv h
              refine g_callV hX hR hV (fun l => c6_reading (l := l) hX.vc hV hcS11) xc9_36 rfl ⟨by decide, by decide⟩ rfl rfl (Nat.le_of_ble_eq_true rfl) dL_agree_89 ?_
              refine g_if_ne hX 99 dL_agree_92 (by decide) (fun hc => ?_) (fun hc => ?_)
              · have h := xif_f hc h
                refine g_iconst (v := (0 : Int32)) hX dL_agree_99 (by decide) ?_
                obtain ⟨hz, h⟩ := xne_inv h
                exact g_zretN hX hM hz (by rw [← Option.some.inj h]) dL_agree_100
              · have h := xif_t hc h
                exact g_sub [] (by rfl) (sfW_agree_J95 hX hM hR hV h)
set_option maxRecDepth 100000 in
theorem sfW_agree_J34 {K0 K : xK} {ρ : xSt → xSt} {X : xX} {out : xR} {rc rs : Nat} (hX : xOK K X RL cL_agree 3) (hM : xMN K0 K ρ X (ρ out.1, out.2) (some .boolean) rc rs) (hR : xRm X 4 110) (hV : (6, 0) ∈ xvl K) (hN : ∀ o, (33, o) ∉ xvl K) (hcr : 5 ≤ rc ∧ 320 ≤ rs) {k4 : xSt → Int32 → Int32 → Option xR} (hk4 : ∀ (S : xSt) (i1 : Int32) (i2 : Int32), k4 S i1 i2 = some out → xG K X S 4 [(0, xr K 6 0), (1, .int i1), (2, .int i2)] []) {S : xSt} {i2 : Int32} {k0 : Int32} {k1 : Int32} (h : fW_agree_J34  k4 S i2 k0 k1 = some out) : xG K X S 34 [(0, xr K 6 0), (2, .int i2)] [.int k0, .int k1] := by
  unfold fW_agree_J34 at h
  refine g_iadd hX dL_agree_34 ?_
  refine g_istore_n (lv2 := [(1, .int (k1 + k0)), (0, xr K 6 0), (2, .int i2)]) hX dL_agree_35 rfl (by decide) rfl ?_
  refine g_iinc (v := (i2 + (1 : Int32))) (lv2 := [(2, .int (i2 + (1 : Int32))), (1, .int (k1 + k0)), (0, xr K 6 0)]) hX dL_agree_36 2 rfl rfl (by decide) rfl ?_
  refine g_goto hX 4 dL_agree_39 (by decide) ?_
  exact g_sub [2, 1, 0] (by rfl) (hk4 _ _ _ h)
set_option maxRecDepth 100000 in
theorem sbW_agree_L4 {K0 K : xK} {ρ : xSt → xSt} {X : xX} {out : xR} {rc rs : Nat} (hX : xOK K X RL cL_agree 3) (hM : xMN K0 K ρ X (ρ out.1, out.2) (some .boolean) rc rs) (hR : xRm X 4 110) (hV : (6, 0) ∈ xvl K) (hN : ∀ o, (33, o) ∉ xvl K) (hcr : 5 ≤ rc ∧ 320 ≤ rs)  {k4 : xSt → Int32 → Int32 → Option xR} (hk4 : ∀ (S : xSt) (i1 : Int32) (i2 : Int32), k4 S i1 i2 = some out → xG K X S 4 [(0, xr K 6 0), (1, .int i1), (2, .int i2)] []) {S : xSt} {i1 : Int32} {i2 : Int32} (h : bW_agree_L4   k4 S i1 i2 = some out) : xG K X S 4 [(0, xr K 6 0), (1, .int i1), (2, .int i2)] [] := by
  unfold bW_agree_L4 at h
  refine g_iload_n hX dL_agree_4 rfl 2 rfl ?_
  refine g_aload_n hX dL_agree_5 rfl 0 rfl ?_
  refine g_iconst (v := (1 : Int32)) hX dL_agree_6 (by decide) ?_
  obtain ⟨S1, r2, hcS1, h⟩ := xbI_inv h
  refine g_callV hX hR hV (fun l => c6_count (l := l) hX.vc hV hcS1) xc9_8 rfl ⟨by decide, by decide⟩ rfl rfl (Nat.le_of_ble_eq_true rfl) dL_agree_7 ?_
  refine g_icmp_ge hX 42 dL_agree_10 (by decide) (fun hc => ?_) (fun hc => ?_)
  · have h := xif_t hc h
    exact g_sub [0, 1] (by rfl) (sfW_agree_J42 hX hM hR hV hN hcr h)
  · have h := xif_f hc h
    refine g_iload_n hX dL_agree_13 rfl 1 rfl ?_
    refine g_aload_n hX dL_agree_14 rfl 0 rfl ?_
    refine g_iload_n hX dL_agree_15 rfl 2 rfl ?_
    refine g_iconst (v := (0 : Int32)) hX dL_agree_16 (by decide) ?_
    obtain ⟨S3, r4, hcS3, h⟩ := xbI_inv h
    refine g_callV hX hR hV (fun l => c6_ofCode (l := l) hX.vc hV hcS3) xc9_17 rfl ⟨by decide, by decide⟩ rfl rfl (Nat.le_of_ble_eq_true rfl) dL_agree_17 ?_
    refine g_aload_n hX dL_agree_20 rfl 0 rfl ?_
    refine g_iload_n hX dL_agree_21 rfl 2 rfl ?_
    refine g_iconst (v := (1 : Int32)) hX dL_agree_22 (by decide) ?_
    obtain ⟨S5, r6, hcS5, h⟩ := xbI_inv h
    refine g_callV hX hR hV (fun l => c6_ofCode (l := l) hX.vc hV hcS5) xc9_17 rfl ⟨by decide, by decide⟩ rfl rfl (Nat.le_of_ble_eq_true rfl) dL_agree_23 ?_
    refine g_icmp_eq hX 33 dL_agree_26 (by decide) (fun hc => ?_) (fun hc => ?_)
    · have h := xif_t hc h
      refine g_iconst (v := (0 : Int32)) hX dL_agree_33 (by decide) ?_
      exact g_sub [0, 2] (by rfl) (sfW_agree_J34 hX hM hR hV hN hcr hk4 h)
    · have h := xif_f hc h
      refine g_iconst (v := (1 : Int32)) hX dL_agree_29 (by decide) ?_
      refine g_goto hX 34 dL_agree_30 (by decide) ?_
      exact g_sub [0, 2] (by rfl) (sfW_agree_J34 hX hM hR hV hN hcr hk4 h)
theorem sfW_agree_L4 {K0 K : xK} {ρ : xSt → xSt} {X : xX} {out : xR} {rc rs : Nat} (hX : xOK K X RL cL_agree 3) (hM : xMN K0 K ρ X (ρ out.1, out.2) (some .boolean) rc rs) (hR : xRm X 4 110) (hV : (6, 0) ∈ xvl K) (hN : ∀ o, (33, o) ∉ xvl K) (hcr : 5 ≤ rc ∧ 320 ≤ rs)  : ∀ (n : Nat) (S : xSt) (i1 : Int32) (i2 : Int32) (h : fW_agree_L4   n S i1 i2 = some out), xG K X S 4 [(0, xr K 6 0), (1, .int i1), (2, .int i2)] [] := by
  intro n
  induction n with
  | zero => intro S i1 i2 h; cases h
  | succ n ih => intro S i1 i2 h; exact sbW_agree_L4 hX hM hR hV hN hcr  ih h
set_option maxRecDepth 100000 in
theorem cW_agree {l : Launch} {K : xK} (hvc : xVC (xvl K)) (hV : (6, 0) ∈ xvl K) (hN : ∀ o, (33, o) ∉ xvl K) {S : xSt} {out : xR} (h : fW_agree S = some out) : xMetN l K yL_agree cL_agree 3 (some .boolean) 4 110 5 320 S [xr K 6 0] out := by
  refine xMetN_of RL (fun S => S) (by decide +kernel) rfl hvc (fun S9 U9 H9 w => w) (Nat.le_of_ble_eq_true rfl) ?_
  intro X hX hM hR
  have hcr : 5 ≤ 5 ∧ 320 ≤ 320 := ⟨Nat.le_refl _, Nat.le_refl _⟩
  show xG K X S 0 [(0, xr K 6 0)] []
  unfold fW_agree at h
  refine g_iconst (v := (0 : Int32)) hX dL_agree_0 (by decide) ?_
  refine g_istore_n (lv2 := [(1, .int (0 : Int32)), (0, xr K 6 0)]) hX dL_agree_1 rfl (by decide) rfl ?_
  refine g_iconst (v := (0 : Int32)) hX dL_agree_2 (by decide) ?_
  refine g_istore_n (lv2 := [(2, .int (0 : Int32)), (1, .int (0 : Int32)), (0, xr K 6 0)]) hX dL_agree_3 rfl (by decide) rfl ?_
  exact g_sub [2, 1, 0] (by rfl) (sfW_agree_L4 hX hM hR hV hN hcr _ _ _ _ h)
set_option maxRecDepth 100000 in
theorem sfW_isSpoiled_J19 {K : xK} {X : xX} {out : xR}  (hX : xOK K X RL cL_isSpoiled 5) (hM : xM K X out (some .boolean)) (hR : xRm X 7 161) (hV : (6, 0) ∈ xvl K)  {S : xSt} {i1 : Int32} {i2 : Int32} {k0 : Int32} (h : fW_isSpoiled_J19   S i1 i2 k0 = some out) : xG K X S 19 [(0, xr K 6 0), (1, .int i1), (2, .int i2)] [.int k0] := by
  unfold fW_isSpoiled_J19 at h
  refine g_istore_n (lv2 := [(3, .int k0), (0, xr K 6 0), (1, .int i1), (2, .int i2)]) hX dL_isSpoiled_19 rfl (by decide) rfl ?_
  refine g_aload_n hX dL_isSpoiled_20 rfl 1 rfl ?_
  refine g_iload_n hX dL_isSpoiled_21 rfl 2 rfl ?_
  refine g_iload_n hX dL_isSpoiled_22 rfl 3 rfl ?_
  obtain ⟨S1, r2, hcS1, h⟩ := xbI_inv h
  refine g_callV hX hR hV (fun l => c6_spoil (l := l) hX.vc hV hcS1) xc9_49 rfl ⟨by decide, by decide⟩ rfl rfl (Nat.le_of_ble_eq_true rfl) dL_isSpoiled_23 ?_
  refine g_istore (lv2 := [(4, .int r2), (3, .int k0), (0, xr K 6 0), (1, .int i1), (2, .int i2)]) hX dL_isSpoiled_26 (by decide) rfl ?_
  refine g_iload_n hX dL_isSpoiled_28 rfl 1 rfl ?_
  refine g_if_ge hX 46 dL_isSpoiled_29 (by decide) (fun hc => ?_) (fun hc => ?_)
  · have h := xif_t hc h
    refine g_iload hX dL_isSpoiled_46 0 rfl ?_
    refine g_iload_n hX dL_isSpoiled_48 rfl 1 rfl ?_
    refine g_iload_n hX dL_isSpoiled_49 rfl 4 rfl ?_
    refine g_ixor hX dL_isSpoiled_50 ?_
    refine g_icmp_ne hX 69 dL_isSpoiled_51 (by decide) (fun hc => ?_) (fun hc => ?_)
    · have h := xif_f hc h
      refine g_iconst (v := (0 : Int32)) hX dL_isSpoiled_69 (by decide) ?_
      obtain ⟨hz, h⟩ := xne_inv h
      exact g_zret hX hM hz (Option.some.inj h) dL_isSpoiled_70
    · have h := xif_t hc h
      refine g_aload_n hX dL_isSpoiled_54 rfl 2 rfl ?_
      refine g_iload_n hX dL_isSpoiled_55 rfl 3 rfl ?_
      refine g_iconst (v := (1 : Int32)) hX dL_isSpoiled_56 (by decide) ?_
      obtain ⟨S3, r4, hcS3, h⟩ := xbI_inv h
      refine g_callV hX hR hV (fun l => c6_ofCode (l := l) hX.vc hV hcS3) xc9_17 rfl ⟨by decide, by decide⟩ rfl rfl (Nat.le_of_ble_eq_true rfl) dL_isSpoiled_57 ?_
      refine g_iload hX dL_isSpoiled_60 0 rfl ?_
      refine g_icmp_ne hX 69 dL_isSpoiled_62 (by decide) (fun hc => ?_) (fun hc => ?_)
      · have h := xif_f hc h
        refine g_iconst (v := (0 : Int32)) hX dL_isSpoiled_69 (by decide) ?_
        obtain ⟨hz, h⟩ := xne_inv h
        exact g_zret hX hM hz (Option.some.inj h) dL_isSpoiled_70
      · have h := xif_t hc h
        refine g_iconst (v := (1 : Int32)) hX dL_isSpoiled_65 (by decide) ?_
        refine g_goto hX 70 dL_isSpoiled_66 (by decide) ?_
        obtain ⟨hz, h⟩ := xne_inv h
        exact g_zret hX hM hz (Option.some.inj h) dL_isSpoiled_70
  · have h := xif_f hc h
    refine g_iload hX dL_isSpoiled_32 0 rfl ?_
    refine g_iconst (v := (-1 : Int32)) hX dL_isSpoiled_34 (by decide) ?_
    refine g_icmp_ne hX 42 dL_isSpoiled_35 (by decide) (fun hc => ?_) (fun hc => ?_)
    · have h := xif_f hc h
      refine g_iconst (v := (0 : Int32)) hX dL_isSpoiled_42 (by decide) ?_
      refine g_goto hX 70 dL_isSpoiled_43 (by decide) ?_
      obtain ⟨hz, h⟩ := xne_inv h
      exact g_zret hX hM hz (Option.some.inj h) dL_isSpoiled_70
    · have h := xif_t hc h
      refine g_iconst (v := (1 : Int32)) hX dL_isSpoiled_38 (by decide) ?_
      refine g_goto hX 70 dL_isSpoiled_39 (by decide) ?_
      obtain ⟨hz, h⟩ := xne_inv h
      exact g_zret hX hM hz (Option.some.inj h) dL_isSpoiled_70
set_option maxRecDepth 100000 in
theorem cW_isSpoiled {l : Launch} {K : xK}  (hvc : xVC (xvl K)) (hV : (6, 0) ∈ xvl K) {S : xSt} {a1 : Int32} {a2 : Int32} {out : xR} (h : fW_isSpoiled S  a1 a2 = some out) : xMet l K yL_isSpoiled cL_isSpoiled 5 (some .boolean) 7 161 S [xr K 6 0, .int a1, .int a2] out := by
  refine xMet_of RL (by decide +kernel) rfl hvc (Nat.le_of_ble_eq_true rfl) ?_
  intro X hX hM hR
  show xG K X S 0 [(0, xr K 6 0), (1, .int a1), (2, .int a2)] []
  unfold fW_isSpoiled at h
  refine g_iload_n hX dL_isSpoiled_0 rfl 1 rfl ?_
  refine g_aload_n hX dL_isSpoiled_1 rfl 0 rfl ?_
  refine g_iconst (v := (1 : Int32)) hX dL_isSpoiled_2 (by decide) ?_
  obtain ⟨S1, r2, hcS1, h⟩ := xbI_inv h
  refine g_callV hX hR hV (fun l => c6_count (l := l) hX.vc hV hcS1) xc9_8 rfl ⟨by decide, by decide⟩ rfl rfl (Nat.le_of_ble_eq_true rfl) dL_isSpoiled_3 ?_
  refine g_icmp_ge hX 18 dL_isSpoiled_6 (by decide) (fun hc => ?_) (fun hc => ?_)
  · have h := xif_t hc h
    refine g_iconst (v := (-1 : Int32)) hX dL_isSpoiled_18 (by decide) ?_
    exact sfW_isSpoiled_J19 hX hM hR hV h
  · have h := xif_f hc h
    refine g_aload_n hX dL_isSpoiled_9 rfl 0 rfl ?_
    refine g_iload_n hX dL_isSpoiled_10 rfl 1 rfl ?_
    refine g_iconst (v := (1 : Int32)) hX dL_isSpoiled_11 (by decide) ?_
    obtain ⟨S3, r4, hcS3, h⟩ := xbI_inv h
    refine g_callV hX hR hV (fun l => c6_ofCode (l := l) hX.vc hV hcS3) xc9_17 rfl ⟨by decide, by decide⟩ rfl rfl (Nat.le_of_ble_eq_true rfl) dL_isSpoiled_12 ?_
    refine g_goto hX 19 dL_isSpoiled_15 (by decide) ?_
    exact sfW_isSpoiled_J19 hX hM hR hV h
set_option maxRecDepth 100000 in
theorem sfW_isAct_J344 {K : xK} {X : xX} {out : xR}  {L : Nat} {xs : Nat → Int32} (hX : xOK K X RL cL_isAct 10) (hM : xM K X out (some .boolean)) (hR : xRm X 8 185) (hV : (6, 0) ∈ xvl K) (hL : xsa K 4 = L) (hxs : xxs K = xs)  {S : xSt} {k0 : Int32} {k1 : Int32} (h : fW_isAct_J344  L xs  S k0 k1 = some out) : xG K X S 344 [] [.int k0, .int k1, xr K 6 0] := by
  unfold fW_isAct_J344 at h
  obtain ⟨S1, r2, hcS1, h⟩ := xbI_inv h
  refine g_callS hX hR (fun l => cW_isSpoiled (l := l) hX.vc hV hcS1) xc9_65 rfl ⟨by decide, by decide⟩ rfl rfl (Nat.le_of_ble_eq_true rfl) dL_isAct_344 ?_
  obtain ⟨hz, h⟩ := xne_inv h
  exact g_zret hX hM hz (Option.some.inj h) dL_isAct_347
set_option maxRecDepth 100000 in
theorem sfW_isAct_J134 {K : xK} {X : xX} {out : xR}  {L : Nat} {xs : Nat → Int32} (hX : xOK K X RL cL_isAct 10) (hM : xM K X out (some .boolean)) (hR : xRm X 8 185) (hV : (6, 0) ∈ xvl K) (hL : xsa K 4 = L) (hxs : xxs K = xs)  {S : xSt}  (h : fW_isAct_J134  L xs  S  = some out) : xG K X S 134 [] [] := by
  unfold fW_isAct_J134 at h
  refine g_iconst (v := (1 : Int32)) hX dL_isAct_134 (by decide) ?_
  refine g_goto hX 139 dL_isAct_135 (by decide) ?_
  obtain ⟨hz, h⟩ := xne_inv h
  exact g_zret hX hM hz (Option.some.inj h) dL_isAct_139
set_option maxRecDepth 100000 in
theorem sfW_isAct_J69 {K : xK} {X : xX} {out : xR}  {L : Nat} {xs : Nat → Int32} (hX : xOK K X RL cL_isAct 10) (hM : xM K X out (some .boolean)) (hR : xRm X 8 185) (hV : (6, 0) ∈ xvl K) (hL : xsa K 4 = L) (hxs : xxs K = xs)  {S : xSt} {i2 : Int32} {i3 : Int32} {k0 : Int32} {k1 : Int32} (h : fW_isAct_J69  L xs  S i2 i3 k0 k1 = some out) : xG K X S 69 [(0, xr K 6 0), (1, xrs K 3), (2, .int i2), (3, .int i3)] [.int k0, .int k1, xrs K 3] := by
  unfold fW_isAct_J69 at h
  obtain ⟨S1, r2, hcS1, h⟩ := xbI_inv h
  refine g_callS hX hR (fun l => cW_cell (l := l) hX.vc hL hxs hcS1) xc9_52 rfl ⟨by decide, by decide⟩ rfl rfl (Nat.le_of_ble_eq_true rfl) dL_isAct_69 ?_
  refine g_istore (lv2 := [(4, .int r2), (0, xr K 6 0), (1, xrs K 3), (2, .int i2), (3, .int i3)]) hX dL_isAct_72 (by decide) rfl ?_
  refine g_iconst (v := (1 : Int32)) hX dL_isAct_74 (by decide) ?_
  refine g_aloads_n hX dL_isAct_75 rfl 2 rfl ?_
  refine g_iload_n hX dL_isAct_76 rfl 3 rfl ?_
  refine g_iconst (v := (3 : Int32)) hX dL_isAct_77 (by decide) ?_
  refine g_iadd hX dL_isAct_78 ?_
  refine g_iconst (v := (3 : Int32)) hX dL_isAct_79 (by decide) ?_
  obtain ⟨S3, r4, hcS3, h⟩ := xbI_inv h
  refine g_callS hX hR (fun l => cW_cell (l := l) hX.vc hL hxs hcS3) xc9_52 rfl ⟨by decide, by decide⟩ rfl rfl (Nat.le_of_ble_eq_true rfl) dL_isAct_80 ?_
  refine g_iadd hX dL_isAct_83 ?_
  refine g_istore (lv2 := [(5, .int ((1 : Int32) + r4)), (4, .int r2), (0, xr K 6 0), (1, xrs K 3), (2, .int i2), (3, .int i3)]) hX dL_isAct_84 (by decide) rfl ?_
  refine g_iload_n hX dL_isAct_86 rfl 5 rfl ?_
  refine g_iload hX dL_isAct_87 0 rfl ?_
  refine g_iadd hX dL_isAct_89 ?_
  refine g_bipush (v := (34 : Int32)) hX dL_isAct_90 (by decide) ?_
  refine g_icmp_gt hX 134 dL_isAct_92 (by decide) (fun hc => ?_) (fun hc => ?_)
  · have h := xif_t hc h
    exact g_sub [] (by rfl) (sfW_isAct_J134 hX hM hR hV hL hxs h)
  · have h := xif_f hc h
    refine g_aload_n hX dL_isAct_95 rfl 2 rfl ?_
    refine g_iload hX dL_isAct_96 1 rfl ?_
    refine g_iload hX dL_isAct_98 0 rfl ?_
    obtain ⟨S5, r6, hcS5, h⟩ := xbI_inv h
    refine g_callV hX hR hV (fun l => c6_add (l := l) hX.vc hV hcS5) xc9_56 rfl ⟨by decide, by decide⟩ rfl rfl (Nat.le_of_ble_eq_true rfl) dL_isAct_100 ?_
    refine g_iload_n hX dL_isAct_103 rfl 5 rfl ?_
    refine g_iload hX dL_isAct_104 0 rfl ?_
    refine g_iadd hX dL_isAct_106 ?_
    refine g_icmp_ne hX 138 dL_isAct_107 (by decide) (fun hc => ?_) (fun hc => ?_)
    · have h := xif_f hc h
      refine g_iconst (v := (0 : Int32)) hX dL_isAct_138 (by decide) ?_
      obtain ⟨hz, h⟩ := xne_inv h
      exact g_zret hX hM hz (Option.some.inj h) dL_isAct_139
    · have h := xif_t hc h
      refine g_aload_n hX dL_isAct_110 rfl 2 rfl ?_
      refine g_iload_n hX dL_isAct_111 rfl 5 rfl ?_
      refine g_iload hX dL_isAct_112 0 rfl ?_
      refine g_iadd hX dL_isAct_114 ?_
      refine g_iconst (v := (1 : Int32)) hX dL_isAct_115 (by decide) ?_
      refine g_isub hX dL_isAct_116 ?_
      obtain ⟨S7, r8, hcS7, h⟩ := xbI_inv h
      refine g_callV hX hR hV (fun l => c6_sign (l := l) hX.vc hV hcS7) xc9_14 rfl ⟨by decide, by decide⟩ rfl rfl (Nat.le_of_ble_eq_true rfl) dL_isAct_117 ?_
      refine g_iload hX dL_isAct_120 1 rfl ?_
      refine g_icmp_ne hX 138 dL_isAct_122 (by decide) (fun hc => ?_) (fun hc => ?_)
      · have h := xif_f hc h
        refine g_iconst (v := (0 : Int32)) hX dL_isAct_138 (by decide) ?_
        obtain ⟨hz, h⟩ := xne_inv h
        exact g_zret hX hM hz (Option.some.inj h) dL_isAct_139
      · have h := xif_t hc h
        refine g_aload_n hX dL_isAct_125 rfl 2 rfl ?_
        refine g_bipush (v := (6 : Int32)) hX dL_isAct_126 (by decide) ?_
        obtain ⟨S9, r10, hcS9, h⟩ := xbI_inv h
        refine g_callV hX hR hV (fun l => c6_count (l := l) hX.vc hV hcS9) xc9_8 rfl ⟨by decide, by decide⟩ rfl rfl (Nat.le_of_ble_eq_true rfl) dL_isAct_128 ?_
        refine g_if_ne hX 138 dL_isAct_131 (by decide) (fun hc => ?_) (fun hc => ?_)
        · have h := xif_f hc h
          refine g_iconst (v := (0 : Int32)) hX dL_isAct_138 (by decide) ?_
          obtain ⟨hz, h⟩ := xne_inv h
          exact g_zret hX hM hz (Option.some.inj h) dL_isAct_139
        · have h := xif_t hc h
          exact g_sub [] (by rfl) (sfW_isAct_J134 hX hM hR hV hL hxs h)
set_option maxRecDepth 100000 in
theorem sfW_isAct_J174 {K : xK} {X : xX} {out : xR}  {L : Nat} {xs : Nat → Int32} (hX : xOK K X RL cL_isAct 10) (hM : xM K X out (some .boolean)) (hR : xRm X 8 185) (hV : (6, 0) ∈ xvl K) (hL : xsa K 4 = L) (hxs : xxs K = xs)  {S : xSt} {k0 : Int32} {k1 : Int32} (h : fW_isAct_J174  L xs  S k0 k1 = some out) : xG K X S 174 [] [.int k0, .int k1] := by
  unfold fW_isAct_J174 at h
  refine g_icmp_ne hX 181 dL_isAct_174 (by decide) (fun hc => ?_) (fun hc => ?_)
  · have h := xif_f hc h
    refine g_iconst (v := (0 : Int32)) hX dL_isAct_181 (by decide) ?_
    obtain ⟨hz, h⟩ := xne_inv h
    exact g_zret hX hM hz (Option.some.inj h) dL_isAct_182
  · have h := xif_t hc h
    refine g_iconst (v := (1 : Int32)) hX dL_isAct_177 (by decide) ?_
    refine g_goto hX 182 dL_isAct_178 (by decide) ?_
    obtain ⟨hz, h⟩ := xne_inv h
    exact g_zret hX hM hz (Option.some.inj h) dL_isAct_182
set_option maxRecDepth 100000 in
theorem sfW_isAct_J238 {K : xK} {X : xX} {out : xR}  {L : Nat} {xs : Nat → Int32} (hX : xOK K X RL cL_isAct 10) (hM : xM K X out (some .boolean)) (hR : xRm X 8 185) (hV : (6, 0) ∈ xvl K) (hL : xsa K 4 = L) (hxs : xxs K = xs)  {S : xSt} {i7 : Int32} {k0 : Int32} (h : fW_isAct_J238  L xs  S i7 k0 = some out) : xG K X S 238 [(0, xr K 6 0), (7, .int i7)] [.int k0] := by
  unfold fW_isAct_J238 at h
  refine g_istore (lv2 := [(8, .int k0), (0, xr K 6 0), (7, .int i7)]) hX dL_isAct_238 (by decide) rfl ?_
  refine g_aload_n hX dL_isAct_240 rfl 1 rfl ?_
  refine g_bipush (v := (9 : Int32)) hX dL_isAct_241 (by decide) ?_
  refine g_iload hX dL_isAct_243 2 rfl ?_
  refine g_iadd hX dL_isAct_245 ?_
  obtain ⟨S1, r2, hcS1, h⟩ := xbI_inv h
  refine g_callV hX hR hV (fun l => c6_count (l := l) hX.vc hV hcS1) xc9_8 rfl ⟨by decide, by decide⟩ rfl rfl (Nat.le_of_ble_eq_true rfl) dL_isAct_246 ?_
  refine g_istore (lv2 := [(9, .int r2), (8, .int k0), (0, xr K 6 0), (7, .int i7)]) hX dL_isAct_249 (by decide) rfl ?_
  refine g_aload_n hX dL_isAct_251 rfl 2 rfl ?_
  refine g_iload hX dL_isAct_252 3 rfl ?_
  refine g_iload hX dL_isAct_254 1 rfl ?_
  obtain ⟨S3, r4, hcS3, h⟩ := xbI_inv h
  refine g_callV hX hR hV (fun l => c6_set (l := l) hX.vc hV hcS3) xc9_62 rfl ⟨by decide, by decide⟩ rfl rfl (Nat.le_of_ble_eq_true rfl) dL_isAct_256 ?_
  refine g_iload hX dL_isAct_259 0 rfl ?_
  refine g_icmp_ne hX 291 dL_isAct_261 (by decide) (fun hc => ?_) (fun hc => ?_)
  · have h := xif_f hc h
    refine g_iconst (v := (0 : Int32)) hX dL_isAct_291 (by decide) ?_
    obtain ⟨hz, h⟩ := xne_inv h
    exact g_zret hX hM hz (Option.some.inj h) dL_isAct_292
  · have h := xif_t hc h
    refine g_aload_n hX dL_isAct_264 rfl 2 rfl ?_
    refine g_bipush (v := (9 : Int32)) hX dL_isAct_265 (by decide) ?_
    refine g_iload hX dL_isAct_267 3 rfl ?_
    refine g_iadd hX dL_isAct_269 ?_
    obtain ⟨S5, r6, hcS5, h⟩ := xbI_inv h
    refine g_callV hX hR hV (fun l => c6_count (l := l) hX.vc hV hcS5) xc9_8 rfl ⟨by decide, by decide⟩ rfl rfl (Nat.le_of_ble_eq_true rfl) dL_isAct_270 ?_
    refine g_iload hX dL_isAct_273 1 rfl ?_
    refine g_icmp_ne hX 291 dL_isAct_275 (by decide) (fun hc => ?_) (fun hc => ?_)
    · have h := xif_f hc h
      refine g_iconst (v := (0 : Int32)) hX dL_isAct_291 (by decide) ?_
      obtain ⟨hz, h⟩ := xne_inv h
      exact g_zret hX hM hz (Option.some.inj h) dL_isAct_292
    · have h := xif_t hc h
      refine g_aload_n hX dL_isAct_278 rfl 2 rfl ?_
      refine g_bipush (v := (6 : Int32)) hX dL_isAct_279 (by decide) ?_
      obtain ⟨S7, r8, hcS7, h⟩ := xbI_inv h
      refine g_callV hX hR hV (fun l => c6_count (l := l) hX.vc hV hcS7) xc9_8 rfl ⟨by decide, by decide⟩ rfl rfl (Nat.le_of_ble_eq_true rfl) dL_isAct_281 ?_
      refine g_if_ne hX 291 dL_isAct_284 (by decide) (fun hc => ?_) (fun hc => ?_)
      · have h := xif_f hc h
        refine g_iconst (v := (0 : Int32)) hX dL_isAct_291 (by decide) ?_
        obtain ⟨hz, h⟩ := xne_inv h
        exact g_zret hX hM hz (Option.some.inj h) dL_isAct_292
      · have h := xif_t hc h
        refine g_iconst (v := (1 : Int32)) hX dL_isAct_287 (by decide) ?_
        refine g_goto hX 292 dL_isAct_288 (by decide) ?_
        obtain ⟨hz, h⟩ := xne_inv h
        exact g_zret hX hM hz (Option.some.inj h) dL_isAct_292
set_option maxRecDepth 100000 in
theorem cW_isAct {l : Launch} {K : xK}  {L : Nat} {xs : Nat → Int32} (hvc : xVC (xvl K)) (hV : (6, 0) ∈ xvl K) (hL : xsa K 4 = L) (hxs : xxs K = xs) {S : xSt} {a2 : Int32} {out : xR} (h : fW_isAct S  L xs a2 = some out) : xMet l K yL_isAct cL_isAct 10 (some .boolean) 8 185 S [xr K 6 0, xrs K 3, .int a2] out := by
  refine xMet_of RL (by decide +kernel) rfl hvc (Nat.le_of_ble_eq_true rfl) ?_
  intro X hX hM hR
  show xG K X S 0 [(0, xr K 6 0), (1, xrs K 3), (2, .int a2)] []
  unfold fW_isAct at h
  refine g_aload_n hX dL_isAct_0 rfl 0 rfl ?_
  refine g_iconst (v := (0 : Int32)) hX dL_isAct_1 (by decide) ?_
  obtain ⟨S1, r2, hcS1, h⟩ := xbI_inv h
  refine g_callV hX hR hV (fun l => c6_count (l := l) hX.vc hV hcS1) xc9_8 rfl ⟨by decide, by decide⟩ rfl rfl (Nat.le_of_ble_eq_true rfl) dL_isAct_2 ?_
  refine g_istore_n (lv2 := [(3, .int r2), (0, xr K 6 0), (1, xrs K 3), (2, .int a2)]) hX dL_isAct_5 rfl (by decide) rfl ?_
  refine g_aloads_n hX dL_isAct_6 rfl 2 rfl ?_
  refine g_iload_n hX dL_isAct_7 rfl 3 rfl ?_
  refine g_bipush (v := (10 : Int32)) hX dL_isAct_8 (by decide) ?_
  obtain ⟨S3, r4, hcS3, h⟩ := xbI_inv h
  refine g_callS hX hR (fun l => cW_cell (l := l) hX.vc hL hxs hcS3) xc9_52 rfl ⟨by decide, by decide⟩ rfl rfl (Nat.le_of_ble_eq_true rfl) dL_isAct_10 ?_
  by_cases hc : r4.toInt < 0 ∨ 4 < r4.toInt
  · have h := xif_t hc h
    refine g_tsOut hX 293 dL_isAct_13 hc (by decide) ?_
    refine g_aload_n hX dL_isAct_293 rfl 1 rfl ?_
    refine g_aloads_n hX dL_isAct_294 rfl 2 rfl ?_
    refine g_iload_n hX dL_isAct_295 rfl 3 rfl ?_
    refine g_iconst (v := (1 : Int32)) hX dL_isAct_296 (by decide) ?_
    refine g_iadd hX dL_isAct_297 ?_
    refine g_aload_n hX dL_isAct_298 rfl 1 rfl ?_
    refine g_iconst (v := (1 : Int32)) hX dL_isAct_299 (by decide) ?_
    obtain ⟨S5, r6, hcS5, h⟩ := xbI_inv h
    refine g_callV hX hR hV (fun l => c6_count (l := l) hX.vc hV hcS5) xc9_8 rfl ⟨by decide, by decide⟩ rfl rfl (Nat.le_of_ble_eq_true rfl) dL_isAct_300 ?_
    refine g_iconst (v := (1 : Int32)) hX dL_isAct_303 (by decide) ?_
    refine g_iadd hX dL_isAct_304 ?_
    obtain ⟨S7, r8, hcS7, h⟩ := xbI_inv h
    refine g_callS hX hR (fun l => cW_cell (l := l) hX.vc hL hxs hcS7) xc9_52 rfl ⟨by decide, by decide⟩ rfl rfl (Nat.le_of_ble_eq_true rfl) dL_isAct_305 ?_
    refine g_aloads_n hX dL_isAct_308 rfl 2 rfl ?_
    refine g_iload_n hX dL_isAct_309 rfl 3 rfl ?_
    refine g_iconst (v := (2 : Int32)) hX dL_isAct_310 (by decide) ?_
    refine g_iadd hX dL_isAct_311 ?_
    refine g_iconst (v := (3 : Int32)) hX dL_isAct_312 (by decide) ?_
    obtain ⟨S9, r10, hcS9, h⟩ := xbI_inv h
    refine g_callS hX hR (fun l => cW_cell (l := l) hX.vc hL hxs hcS9) xc9_52 rfl ⟨by decide, by decide⟩ rfl rfl (Nat.le_of_ble_eq_true rfl) dL_isAct_313 ?_
    refine g_if_ne hX 334 dL_isAct_316 (by decide) (fun hc => ?_) (fun hc => ?_)
    · have h := xif_f hc h
      refine g_iconst (v := (1 : Int32)) hX dL_isAct_334 (by decide) ?_
      refine g_aloads_n hX dL_isAct_335 rfl 2 rfl ?_
      refine g_iload_n hX dL_isAct_336 rfl 3 rfl ?_
      refine g_iconst (v := (3 : Int32)) hX dL_isAct_337 (by decide) ?_
      refine g_iadd hX dL_isAct_338 ?_
      refine g_iconst (v := (5 : Int32)) hX dL_isAct_339 (by decide) ?_
      obtain ⟨S11, r12, hcS11, h⟩ := xbI_inv h
      refine g_callS hX hR (fun l => cW_cell (l := l) hX.vc hL hxs hcS11) xc9_52 rfl ⟨by decide, by decide⟩ rfl rfl (Nat.le_of_ble_eq_true rfl) dL_isAct_340 ?_
      refine g_ishl hX dL_isAct_343 ?_
      exact g_sub [] (by rfl) (sfW_isAct_J344 hX hM hR hV hL hxs h)
    · have h := xif_t hc h
      refine g_iconst (v := (1 : Int32)) hX dL_isAct_319 (by decide) ?_
      refine g_aloads_n hX dL_isAct_320 rfl 2 rfl ?_
      refine g_iload_n hX dL_isAct_321 rfl 3 rfl ?_
      refine g_iconst (v := (3 : Int32)) hX dL_isAct_322 (by decide) ?_
      refine g_iadd hX dL_isAct_323 ?_
      refine g_sipush (v := (511 : Int32)) hX dL_isAct_324 (by decide) ?_
      obtain ⟨S13, r14, hcS13, h⟩ := xbI_inv h
      refine g_callS hX hR (fun l => cW_cell (l := l) hX.vc hL hxs hcS13) xc9_52 rfl ⟨by decide, by decide⟩ rfl rfl (Nat.le_of_ble_eq_true rfl) dL_isAct_327 ?_
      refine g_iadd hX dL_isAct_330 ?_
      refine g_goto hX 344 dL_isAct_331 (by decide) ?_
      exact g_sub [] (by rfl) (sfW_isAct_J344 hX hM hR hV hL hxs h)
  have h := xif_f hc h
  generalize hn : (r4.toInt - 0).toNat = n at h
  match n, hn, h with
  | 0, hn, h =>
    refine g_tsIn hX 48 dL_isAct_13 hc 0 hn (by rfl) (by decide) ?_
    refine g_aloads_n hX dL_isAct_48 rfl 2 rfl ?_
    refine g_iload_n hX dL_isAct_49 rfl 3 rfl ?_
    refine g_iconst (v := (1 : Int32)) hX dL_isAct_50 (by decide) ?_
    refine g_iadd hX dL_isAct_51 ?_
    refine g_aloads_n hX dL_isAct_52 rfl 2 rfl ?_
    refine g_iload_n hX dL_isAct_53 rfl 3 rfl ?_
    refine g_iconst (v := (2 : Int32)) hX dL_isAct_54 (by decide) ?_
    refine g_iadd hX dL_isAct_55 ?_
    refine g_iconst (v := (3 : Int32)) hX dL_isAct_56 (by decide) ?_
    obtain ⟨S15, r16, hcS15, h⟩ := xbI_inv h
    refine g_callS hX hR (fun l => cW_cell (l := l) hX.vc hL hxs hcS15) xc9_52 rfl ⟨by decide, by decide⟩ rfl rfl (Nat.le_of_ble_eq_true rfl) dL_isAct_57 ?_
    refine g_if_ne hX 68 dL_isAct_60 (by decide) (fun hc => ?_) (fun hc => ?_)
    · have h := xif_f hc h
      refine g_iconst (v := (2 : Int32)) hX dL_isAct_68 (by decide) ?_
      exact g_sub [1, 2, 3, 0] (by rfl) (sfW_isAct_J69 hX hM hR hV hL hxs h)
    · have h := xif_t hc h
      refine g_bipush (v := (8 : Int32)) hX dL_isAct_63 (by decide) ?_
      refine g_goto hX 69 dL_isAct_65 (by decide) ?_
      exact g_sub [1, 2, 3, 0] (by rfl) (sfW_isAct_J69 hX hM hR hV hL hxs h)
  | 1, hn, h =>
    refine g_tsIn hX 48 dL_isAct_13 hc 1 hn (by rfl) (by decide) ?_
    refine g_aloads_n hX dL_isAct_48 rfl 2 rfl ?_
    refine g_iload_n hX dL_isAct_49 rfl 3 rfl ?_
    refine g_iconst (v := (1 : Int32)) hX dL_isAct_50 (by decide) ?_
    refine g_iadd hX dL_isAct_51 ?_
    refine g_aloads_n hX dL_isAct_52 rfl 2 rfl ?_
    refine g_iload_n hX dL_isAct_53 rfl 3 rfl ?_
    refine g_iconst (v := (2 : Int32)) hX dL_isAct_54 (by decide) ?_
    refine g_iadd hX dL_isAct_55 ?_
    refine g_iconst (v := (3 : Int32)) hX dL_isAct_56 (by decide) ?_
    obtain ⟨S17, r18, hcS17, h⟩ := xbI_inv h
    refine g_callS hX hR (fun l => cW_cell (l := l) hX.vc hL hxs hcS17) xc9_52 rfl ⟨by decide, by decide⟩ rfl rfl (Nat.le_of_ble_eq_true rfl) dL_isAct_57 ?_
    refine g_if_ne hX 68 dL_isAct_60 (by decide) (fun hc => ?_) (fun hc => ?_)
    · have h := xif_f hc h
      refine g_iconst (v := (2 : Int32)) hX dL_isAct_68 (by decide) ?_
      exact g_sub [1, 2, 3, 0] (by rfl) (sfW_isAct_J69 hX hM hR hV hL hxs h)
    · have h := xif_t hc h
      refine g_bipush (v := (8 : Int32)) hX dL_isAct_63 (by decide) ?_
      refine g_goto hX 69 dL_isAct_65 (by decide) ?_
      exact g_sub [1, 2, 3, 0] (by rfl) (sfW_isAct_J69 hX hM hR hV hL hxs h)
  | 2, hn, h =>
    refine g_tsIn hX 48 dL_isAct_13 hc 2 hn (by rfl) (by decide) ?_
    refine g_aloads_n hX dL_isAct_48 rfl 2 rfl ?_
    refine g_iload_n hX dL_isAct_49 rfl 3 rfl ?_
    refine g_iconst (v := (1 : Int32)) hX dL_isAct_50 (by decide) ?_
    refine g_iadd hX dL_isAct_51 ?_
    refine g_aloads_n hX dL_isAct_52 rfl 2 rfl ?_
    refine g_iload_n hX dL_isAct_53 rfl 3 rfl ?_
    refine g_iconst (v := (2 : Int32)) hX dL_isAct_54 (by decide) ?_
    refine g_iadd hX dL_isAct_55 ?_
    refine g_iconst (v := (3 : Int32)) hX dL_isAct_56 (by decide) ?_
    obtain ⟨S19, r20, hcS19, h⟩ := xbI_inv h
    refine g_callS hX hR (fun l => cW_cell (l := l) hX.vc hL hxs hcS19) xc9_52 rfl ⟨by decide, by decide⟩ rfl rfl (Nat.le_of_ble_eq_true rfl) dL_isAct_57 ?_
    refine g_if_ne hX 68 dL_isAct_60 (by decide) (fun hc => ?_) (fun hc => ?_)
    · have h := xif_f hc h
      refine g_iconst (v := (2 : Int32)) hX dL_isAct_68 (by decide) ?_
      exact g_sub [1, 2, 3, 0] (by rfl) (sfW_isAct_J69 hX hM hR hV hL hxs h)
    · have h := xif_t hc h
      refine g_bipush (v := (8 : Int32)) hX dL_isAct_63 (by decide) ?_
      refine g_goto hX 69 dL_isAct_65 (by decide) ?_
      exact g_sub [1, 2, 3, 0] (by rfl) (sfW_isAct_J69 hX hM hR hV hL hxs h)
  | 3, hn, h =>
    refine g_tsIn hX 140 dL_isAct_13 hc 3 hn (by rfl) (by decide) ?_
    refine g_iconst (v := (1 : Int32)) hX dL_isAct_140 (by decide) ?_
    refine g_aloads_n hX dL_isAct_141 rfl 2 rfl ?_
    refine g_iload_n hX dL_isAct_142 rfl 3 rfl ?_
    refine g_iconst (v := (1 : Int32)) hX dL_isAct_143 (by decide) ?_
    refine g_iadd hX dL_isAct_144 ?_
    refine g_bipush (v := (12 : Int32)) hX dL_isAct_145 (by decide) ?_
    obtain ⟨S21, r22, hcS21, h⟩ := xbI_inv h
    refine g_callS hX hR (fun l => cW_cell (l := l) hX.vc hL hxs hcS21) xc9_52 rfl ⟨by decide, by decide⟩ rfl rfl (Nat.le_of_ble_eq_true rfl) dL_isAct_147 ?_
    refine g_iadd hX dL_isAct_150 ?_
    refine g_istore (lv2 := [(6, .int ((1 : Int32) + r22)), (3, .int r2), (0, xr K 6 0), (1, xrs K 3), (2, .int a2)]) hX dL_isAct_151 (by decide) rfl ?_
    refine g_aload_n hX dL_isAct_153 rfl 2 rfl ?_
    refine g_iload hX dL_isAct_154 0 rfl ?_
    obtain ⟨S23, r24, hcS23, h⟩ := xbI_inv h
    refine g_callV hX hR hV (fun l => c6_cut (l := l) hX.vc hV hcS23) xc9_59 rfl ⟨by decide, by decide⟩ rfl rfl (Nat.le_of_ble_eq_true rfl) dL_isAct_156 ?_
    refine g_iload hX dL_isAct_159 0 rfl ?_
    refine g_iload_n hX dL_isAct_161 rfl 1 rfl ?_
    refine g_icmp_le hX 170 dL_isAct_162 (by decide) (fun hc => ?_) (fun hc => ?_)
    · have h := xif_t hc h
      refine g_iload_n hX dL_isAct_170 rfl 1 rfl ?_
      refine g_iload hX dL_isAct_171 0 rfl ?_
      refine g_isub hX dL_isAct_173 ?_
      exact g_sub [] (by rfl) (sfW_isAct_J174 hX hM hR hV hL hxs h)
    · have h := xif_f hc h
      refine g_bipush (v := (-5 : Int32)) hX dL_isAct_165 (by decide) ?_
      refine g_goto hX 174 dL_isAct_167 (by decide) ?_
      exact g_sub [] (by rfl) (sfW_isAct_J174 hX hM hR hV hL hxs h)
  | 4, hn, h =>
    refine g_tsIn hX 183 dL_isAct_13 hc 4 hn (by rfl) (by decide) ?_
    refine g_aloads_n hX dL_isAct_183 rfl 2 rfl ?_
    refine g_iload_n hX dL_isAct_184 rfl 3 rfl ?_
    refine g_iconst (v := (1 : Int32)) hX dL_isAct_185 (by decide) ?_
    refine g_iadd hX dL_isAct_186 ?_
    refine g_iconst (v := (3 : Int32)) hX dL_isAct_187 (by decide) ?_
    obtain ⟨S25, r26, hcS25, h⟩ := xbI_inv h
    refine g_callS hX hR (fun l => cW_cell (l := l) hX.vc hL hxs hcS25) xc9_52 rfl ⟨by decide, by decide⟩ rfl rfl (Nat.le_of_ble_eq_true rfl) dL_isAct_188 ?_
    refine g_istore (lv2 := [(7, .int r26), (3, .int r2), (0, xr K 6 0), (1, xrs K 3), (2, .int a2)]) hX dL_isAct_191 (by decide) rfl ?_
    refine g_iload hX dL_isAct_193 0 rfl ?_
    refine g_if_ne hX 211 dL_isAct_195 (by decide) (fun hc => ?_) (fun hc => ?_)
    · have h := xif_f hc h
      refine g_iload hX dL_isAct_211 0 rfl ?_
      refine g_iconst (v := (1 : Int32)) hX dL_isAct_213 (by decide) ?_
      refine g_icmp_ne hX 228 dL_isAct_214 (by decide) (fun hc => ?_) (fun hc => ?_)
      · have h := xif_f hc h
        refine g_iconst (v := (4 : Int32)) hX dL_isAct_228 (by decide) ?_
        refine g_aloads_n hX dL_isAct_229 rfl 3 rfl ?_
        refine g_iload_n hX dL_isAct_230 rfl 4 rfl ?_
        refine g_iconst (v := (2 : Int32)) hX dL_isAct_231 (by decide) ?_
        refine g_iadd hX dL_isAct_232 ?_
        refine g_iconst (v := (3 : Int32)) hX dL_isAct_233 (by decide) ?_
        obtain ⟨S27, r28, hcS27, h⟩ := xbI_inv h
        refine g_callS hX hR (fun l => cW_cell (l := l) hX.vc hL hxs hcS27) xc9_52 rfl ⟨by decide, by decide⟩ rfl rfl (Nat.le_of_ble_eq_true rfl) dL_isAct_234 ?_
        refine g_iadd hX dL_isAct_237 ?_
        exact g_sub [2, 0] (by rfl) (sfW_isAct_J238 hX hM hR hV hL hxs h)
      · have h := xif_t hc h
        refine g_aloads_n hX dL_isAct_217 rfl 3 rfl ?_
        refine g_iload_n hX dL_isAct_218 rfl 4 rfl ?_
        refine g_iconst (v := (2 : Int32)) hX dL_isAct_219 (by decide) ?_
        refine g_iadd hX dL_isAct_220 ?_
        refine g_iconst (v := (3 : Int32)) hX dL_isAct_221 (by decide) ?_
        obtain ⟨S29, r30, hcS29, h⟩ := xbI_inv h
        refine g_callS hX hR (fun l => cW_cell (l := l) hX.vc hL hxs hcS29) xc9_52 rfl ⟨by decide, by decide⟩ rfl rfl (Nat.le_of_ble_eq_true rfl) dL_isAct_222 ?_
        refine g_goto hX 238 dL_isAct_225 (by decide) ?_
        exact g_sub [2, 0] (by rfl) (sfW_isAct_J238 hX hM hR hV hL hxs h)
    · have h := xif_t hc h
      refine g_iconst (v := (4 : Int32)) hX dL_isAct_198 (by decide) ?_
      refine g_aloads_n hX dL_isAct_199 rfl 3 rfl ?_
      refine g_iload_n hX dL_isAct_200 rfl 4 rfl ?_
      refine g_iconst (v := (2 : Int32)) hX dL_isAct_201 (by decide) ?_
      refine g_iadd hX dL_isAct_202 ?_
      refine g_iconst (v := (3 : Int32)) hX dL_isAct_203 (by decide) ?_
      obtain ⟨S31, r32, hcS31, h⟩ := xbI_inv h
      refine g_callS hX hR (fun l => cW_cell (l := l) hX.vc hL hxs hcS31) xc9_52 rfl ⟨by decide, by decide⟩ rfl rfl (Nat.le_of_ble_eq_true rfl) dL_isAct_204 ?_
      refine g_iadd hX dL_isAct_207 ?_
      refine g_goto hX 238 dL_isAct_208 (by decide) ?_
      exact g_sub [2, 0] (by rfl) (sfW_isAct_J238 hX hM hR hV hL hxs h)
  | n + 5, hn, h => cases h
