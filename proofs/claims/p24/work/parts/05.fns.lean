def f6_isSetting (S : xSt)  (a0 : Int32) (a1 : Int32) : Option xR :=
  if a0 < 0 then
    xne ((0 : Int32) &&& 1 = (0 : Int32)) (some (S, some (.int (0 : Int32))))
  else
    if (2 : Int32) < a0 then
      xne ((0 : Int32) &&& 1 = (0 : Int32)) (some (S, some (.int (0 : Int32))))
    else
      xat a0 3 fun j1 =>
      if a1 < (xSf 0 j1) then
        xne ((0 : Int32) &&& 1 = (0 : Int32)) (some (S, some (.int (0 : Int32))))
      else
        xat a0 3 fun j2 =>
        if (xSf 1 j2) < a1 then
          xne ((0 : Int32) &&& 1 = (0 : Int32)) (some (S, some (.int (0 : Int32))))
        else
          xne ((1 : Int32) &&& 1 = (1 : Int32)) (some (S, some (.int (1 : Int32))))
def f6_copyState (S : xSt) (o1 : Nat) (o2 : Nat)  : Option xR :=
  xne (xcpok (0 : Int32) (0 : Int32) (3 : Int32) 3 3) <|
  xlet (xua S 22 o2 (va_cpy (S 22 o1) (S 22 o2) ((0 : Int32)).toNatClampNeg ((0 : Int32)).toNatClampNeg ((3 : Int32)).toNatClampNeg)) fun S1 =>
  xne (xcpok (0 : Int32) (0 : Int32) (240 : Int32) 240 240) <|
  xlet (xua S1 23 o2 (va_cpy (S1 23 o1) (S1 23 o2) ((0 : Int32)).toNatClampNeg ((0 : Int32)).toNatClampNeg ((240 : Int32)).toNatClampNeg)) fun S2 =>
  xne (xcpok (0 : Int32) (0 : Int32) (281 : Int32) 281 281) <|
  xlet (xua S2 24 o2 (va_cpy (S2 24 o1) (S2 24 o2) ((0 : Int32)).toNatClampNeg ((0 : Int32)).toNatClampNeg ((281 : Int32)).toNatClampNeg)) fun S3 =>
  xlet (xup S3 4 o2 3 (S3 4 o1 3)) fun S4 =>
  some (S4, none)
def f1_record_J19 (o1 : Nat)  (S : xSt) (k0 : Int32) : Option xR :=
  xlet (xup S 1 0 1 k0) fun S1 =>
  xlet (xup S1 1 0 2 (if (6 : Int32) < ((S1 1 0 2) + (1 : Int32)) then (6 : Int32) else ((S1 1 0 2) + (1 : Int32)))) fun S2 =>
  xat (S2 1 0 1) 6 fun j3 =>
  xbV (f6_copyState S2 o1 (1 + j3)) fun S4 =>
  some (S4, none)
def f1_record (S : xSt) (o1 : Nat)  : Option xR :=
  if (S 1 0 1) < (5 : Int32) then
    f1_record_J19 o1 S ((S 1 0 1) + (1 : Int32))
  else
    f1_record_J19 o1 S (0 : Int32)
def f4_mendCodes (S : xSt) (o : Nat)  : Option xR :=
  xbV (ffill2 S 24 o 281 (0 : Int32)) fun S1 =>
  some (S1, none)
def f0_dropPhrases (S : xSt) (o : Nat)  : Option xR :=
  xlet (xup S 0 o 4 (10 : Int32)) fun S1 =>
  xbV (ffill4 S1 13 o 4096 (0 : Int32) (80 : Int32) (0 : Int32)) fun S2 =>
  some (S2, none)
def f5_begin (S : xSt) (o : Nat) (a1 : Int32) : Option xR :=
  xbV (f0_dropPhrases S o) fun S1 =>
  xlet (xup S1 5 o 10 ((1 : Int32) <<< (a1 &&& 31))) fun S2 =>
  xlet (xup S2 5 o 6 (0 : Int32)) fun S3 =>
  xlet (xup S3 5 o 7 (0 : Int32)) fun S4 =>
  xlet (xup S4 5 o 8 (0 : Int32)) fun S5 =>
  xlet (xup S5 5 o 9 (0 : Int32)) fun S6 =>
  some (S6, none)
def b5_bitsOf_L6   (k6 : xSt → Int32 → Int32 → Option xR) (S : xSt) (i0 : Int32) (i1 : Int32) : Option xR :=
  xat (0 : Int32) 3 fun j1 =>
  if (xSf 1 j1) ≤ i1 then
    some (S, some (.int i1))
  else
    if (i0 >>> (i1 &&& 31)) = 0 then
      some (S, some (.int i1))
    else
      k6 S i0 (i1 + (1 : Int32))
def f5_bitsOf_L6   : Nat → xSt → Int32 → Int32 → Option xR
  | 0 => fun _ _ _ => none
  | n + 1 => b5_bitsOf_L6   (f5_bitsOf_L6   n)
def f5_bitsOf (S : xSt)  (a0 : Int32) : Option xR :=
  xat (0 : Int32) 3 fun j1 =>
  f5_bitsOf_L6 xFU S a0 (xSf 0 j1)
def f5_writeCode (S : xSt) (o : Nat) (a1 : Int32) (a2 : Int32) (a3 : Int32) : Option xR :=
  if (S 5 o 6) < (281 : Int32) then
    xbI (f5_bitsOf S ((S 0 o 4) - (1 : Int32))) fun S1 r2 =>
    xat (S1 5 o 6) 281 fun j3 =>
    xlet (xup S1 25 o j3 a1) fun S4 =>
    xat (S4 5 o 6) 281 fun j5 =>
    xlet (xup S4 26 o j5 r2) fun S6 =>
    xat (S6 5 o 6) 281 fun j7 =>
    xlet (xup S6 27 o j7 a2) fun S8 =>
    xat (S8 5 o 6) 281 fun j9 =>
    xlet (xup S8 28 o j9 a3) fun S10 =>
    xat (S10 5 o 6) 281 fun j11 =>
    xlet (xup S10 29 o j11 (S10 0 o 4)) fun S12 =>
    xlet (xup S12 5 o 7 ((S12 5 o 7) + r2)) fun S13 =>
    xlet (xup S13 5 o 6 ((S13 5 o 6) + (1 : Int32))) fun S14 =>
    some (S14, none)
  else
    some (S, none)
def b0_longestAt_L10 (o : Nat) (o1 : Nat)  (k10 : xSt → Int32 → Int32 → Int32 → Option xR) (S : xSt) (i3 : Int32) (i4 : Int32) (i5 : Int32) : Option xR :=
  if i3 ≤ i5 then
    some (S, some (.int i4))
  else
    xat i5 240 fun j1 =>
    xat ((i4 * (8 : Int32)) + (S 23 o1 j1)) 4096 fun j2 =>
    if (S 13 o j2) = 0 then
      some (S, some (.int i4))
    else
      k10 S i3 (S 13 o j2) (i5 + (1 : Int32))
def f0_longestAt_L10 (o : Nat) (o1 : Nat)  : Nat → xSt → Int32 → Int32 → Int32 → Option xR
  | 0 => fun _ _ _ _ => none
  | n + 1 => b0_longestAt_L10 o o1  (f0_longestAt_L10 o o1  n)
def f0_longestAt (S : xSt) (o : Nat) (o1 : Nat) (a2 : Int32) (a3 : Int32) : Option xR :=
  xat a2 240 fun j1 =>
  f0_longestAt_L10 o o1 xFU S a3 (S 23 o1 j1) (a2 + (1 : Int32))
def f0_addPhrase (S : xSt) (o : Nat) (a1 : Int32) (a2 : Int32) : Option xR :=
  if (S 0 o 4) < (512 : Int32) then
    xat (S 0 o 4) 512 fun j1 =>
    xlet (xup S 10 o j1 a1) fun S2 =>
    xat (S2 0 o 4) 512 fun j3 =>
    xlet (xup S2 11 o j3 a2) fun S4 =>
    xat a1 512 fun j5 =>
    xat (S4 0 o 4) 512 fun j6 =>
    xlet (xup S4 12 o j6 ((S4 12 o j5) + (1 : Int32))) fun S7 =>
    xat ((a1 * (8 : Int32)) + a2) 4096 fun j8 =>
    xlet (xup S7 13 o j8 (S7 0 o 4)) fun S9 =>
    xbV (ffill4 S9 13 o 4096 ((S9 0 o 4) * (8 : Int32)) (((S9 0 o 4) + (1 : Int32)) * (8 : Int32)) (0 : Int32)) fun S10 =>
    xlet (xup S10 0 o 4 ((S10 0 o 4) + (1 : Int32))) fun S11 =>
    some (S11, none)
  else
    some (S, none)
def f5_grow (S : xSt) (o : Nat) (a1 : Int32) (a2 : Int32) : Option xR :=
  if (S 0 o 4) < (S 5 o 10) then
    xbV (f0_addPhrase S o a1 a2) fun S1 =>
    xat a1 512 fun j2 =>
    xlet (xup S1 5 o 9 (if (S1 5 o 9) < ((S1 12 o j2) + (1 : Int32)) then ((S1 12 o j2) + (1 : Int32)) else (S1 5 o 9))) fun S3 =>
    xlet (xup S3 5 o 11 (S3 5 o 6)) fun S4 =>
    some (S4, none)
  else
    some (S, none)
def b5_signsOf_L5 (o : Nat)  (k5 : xSt → Int32 → Int32 → Int32 → Option xR) (S : xSt) (i2 : Int32) (i3 : Int32) (i4 : Int32) : Option xR :=
  if i2 ≤ i4 then
    some (S, some (.int i3))
  else
    xat i4 281 fun j1 =>
    k5 S i2 (i3 + (S 28 o j1)) (i4 + (1 : Int32))
def f5_signsOf_L5 (o : Nat)  : Nat → xSt → Int32 → Int32 → Int32 → Option xR
  | 0 => fun _ _ _ _ => none
  | n + 1 => b5_signsOf_L5 o  (f5_signsOf_L5 o  n)
def f5_signsOf (S : xSt) (o : Nat) (a1 : Int32) (a2 : Int32) : Option xR :=
  f5_signsOf_L5 o xFU S a2 (0 : Int32) a1
def f5_losesBy (S : xSt) (o : Nat) (a1 : Int32) : Option xR :=
  if ((2 : Int32) * a1) ≤ ((S 5 o 6) - (S 5 o 11)) then
    xbI (f5_signsOf S o ((S 5 o 6) - a1) (S 5 o 6)) fun S1 r2 =>
    xbI (f5_signsOf S1 o ((S1 5 o 6) - ((2 : Int32) * a1)) ((S1 5 o 6) - a1)) fun S3 r4 =>
    if r4 ≤ r2 then
      xne ((0 : Int32) &&& 1 = (0 : Int32)) (some (S3, some (.int (0 : Int32))))
    else
      xne ((1 : Int32) &&& 1 = (1 : Int32)) (some (S3, some (.int (1 : Int32))))
  else
    xne ((0 : Int32) &&& 1 = (0 : Int32)) (some (S, some (.int (0 : Int32))))
def f5_mustClear_J33 (o : Nat)  (S : xSt)  : Option xR :=
  xne ((1 : Int32) &&& 1 = (1 : Int32)) (some (S, some (.int (1 : Int32))))
def f5_mustClear (S : xSt) (o : Nat) (a1 : Int32) (a2 : Int32) : Option xR :=
  if a1 = 0 then
    xne ((0 : Int32) &&& 1 = (0 : Int32)) (some (S, some (.int (0 : Int32))))
  else
    if (S 5 o 10) ≤ (S 0 o 4) then
      if a1 = (1 : Int32) then
        f5_mustClear_J33 o S 
      else
        xbI (f5_losesBy S o a2) fun S1 r2 =>
        if r2 = 0 then
          xne ((0 : Int32) &&& 1 = (0 : Int32)) (some (S1, some (.int (0 : Int32))))
        else
          f5_mustClear_J33 o S1 
    else
      xne ((0 : Int32) &&& 1 = (0 : Int32)) (some (S, some (.int (0 : Int32))))
def f5_writeOut_J130 (o : Nat) (o1 : Nat)  (S : xSt)  : Option xR :=
  xbV (f5_writeCode S o (9 : Int32) (-6 : Int32) (0 : Int32)) fun S1 =>
  some (S1, none)
def f5_writeOut_J124 (o : Nat) (o1 : Nat) (k11 : xSt → Int32 → Int32 → Int32 → Int32 → Int32 → Option xR) (S : xSt) (i2 : Int32) (i4 : Int32) (i5 : Int32) (i6 : Int32) (i7 : Int32) : Option xR :=
  k11 S i2 i4 i5 i6 (i7 + (1 : Int32))
def b5_writeOut_L11 (o : Nat) (o1 : Nat)  (k11 : xSt → Int32 → Int32 → Int32 → Int32 → Int32 → Option xR) (S : xSt) (i2 : Int32) (i4 : Int32) (i5 : Int32) (i6 : Int32) (i7 : Int32) : Option xR :=
  if (240 : Int32) ≤ i7 then
    f5_writeOut_J130 o o1 S 
  else
    if i2 ≤ i6 then
      f5_writeOut_J130 o o1 S 
    else
      xbI (f0_longestAt S o o1 i6 i2) fun S1 r2 =>
      xat r2 512 fun j3 =>
      xbV (f5_writeCode S1 o r2 i6 (S1 12 o j3)) fun S4 =>
      xat r2 512 fun j5 =>
      if i2 ≤ (i6 + (S4 12 o j5)) then
        f5_writeOut_J124 o o1 k11 S4 i2 i4 i5 (i6 + (S4 12 o j5)) i7
      else
        xat (i6 + (S4 12 o j5)) 240 fun j6 =>
        xbV (f5_grow S4 o r2 (S4 23 o1 j6)) fun S7 =>
        xbI (f5_mustClear S7 o i4 i5) fun S8 r9 =>
        if r9 = 0 then
          f5_writeOut_J124 o o1 k11 S8 i2 i4 i5 (i6 + (S4 12 o j5)) i7
        else
          xbV (f5_writeCode S8 o (8 : Int32) (-6 : Int32) (0 : Int32)) fun S10 =>
          xlet (xup S10 5 o 8 ((S10 5 o 8) + (1 : Int32))) fun S11 =>
          xbV (f0_dropPhrases S11 o) fun S12 =>
          f5_writeOut_J124 o o1 k11 S12 i2 i4 i5 (i6 + (S4 12 o j5)) i7
def f5_writeOut_L11 (o : Nat) (o1 : Nat)  : Nat → xSt → Int32 → Int32 → Int32 → Int32 → Int32 → Option xR
  | 0 => fun _ _ _ _ _ _ => none
  | n + 1 => b5_writeOut_L11 o o1  (f5_writeOut_L11 o o1  n)
def f5_writeOut (S : xSt) (o : Nat) (o1 : Nat) (a2 : Int32) (a3 : Int32) (a4 : Int32) (a5 : Int32) : Option xR :=
  xbV (f5_begin S o a3) fun S1 =>
  f5_writeOut_L11 o o1 xFU S1 a2 a4 a5 (0 : Int32) (0 : Int32)
def f3_dropPhrases (S : xSt) (o : Nat)  : Option xR :=
  xlet (xup S 3 o 2 (10 : Int32)) fun S1 =>
  xlet (xup S1 3 o 10 (0 : Int32)) fun S2 =>
  some (S2, none)
def f3_begin (S : xSt) (o : Nat) (a1 : Int32) : Option xR :=
  xlet (xup S 3 o 8 ((1 : Int32) <<< (a1 &&& 31))) fun S1 =>
  xlet (xup S1 3 o 1 (0 : Int32)) fun S2 =>
  xlet (xup S2 3 o 3 (0 : Int32)) fun S3 =>
  xlet (xup S3 3 o 4 (-6 : Int32)) fun S4 =>
  xlet (xup S4 3 o 5 (0 : Int32)) fun S5 =>
  xbV (f3_dropPhrases S5 o) fun S6 =>
  some (S6, none)
def f3_noteFault (S : xSt) (o : Nat) (a1 : Int32) (a2 : Int32) : Option xR :=
  xlet (xup S 3 o 4 a1) fun S1 =>
  xlet (xup S1 3 o 5 a2) fun S2 =>
  some (S2, none)
def f3_canGrow (S : xSt) (o : Nat)  : Option xR :=
  if (S 3 o 10) ≤ 0 then
    xne ((0 : Int32) &&& 1 = (0 : Int32)) (some (S, some (.int (0 : Int32))))
  else
    if (S 3 o 8) ≤ (S 3 o 2) then
      xne ((0 : Int32) &&& 1 = (0 : Int32)) (some (S, some (.int (0 : Int32))))
    else
      if (512 : Int32) ≤ (S 3 o 2) then
        xne ((0 : Int32) &&& 1 = (0 : Int32)) (some (S, some (.int (0 : Int32))))
      else
        xne ((1 : Int32) &&& 1 = (1 : Int32)) (some (S, some (.int (1 : Int32))))
def f3_canStand_J27 (o : Nat)  (S : xSt)  : Option xR :=
  xne ((1 : Int32) &&& 1 = (1 : Int32)) (some (S, some (.int (1 : Int32))))
def f3_canStand (S : xSt) (o : Nat) (a1 : Int32) : Option xR :=
  if a1 < 0 then
    xne ((0 : Int32) &&& 1 = (0 : Int32)) (some (S, some (.int (0 : Int32))))
  else
    if a1 < (S 3 o 2) then
      f3_canStand_J27 o S 
    else
      if a1 = (S 3 o 2) then
        xbI (f3_canGrow S o) fun S1 r2 =>
        if r2 = 0 then
          xne ((0 : Int32) &&& 1 = (0 : Int32)) (some (S1, some (.int (0 : Int32))))
        else
          f3_canStand_J27 o S1 
      else
        xne ((0 : Int32) &&& 1 = (0 : Int32)) (some (S, some (.int (0 : Int32))))
def f3_readSign (S : xSt) (o : Nat) (a1 : Int32) : Option xR :=
  if (39621 : Int32) ≤ (S 3 o 1) then
    some (S, none)
  else
    xat (S 3 o 1) 39621 fun j1 =>
    xlet (xup S 19 o j1 a1) fun S2 =>
    xlet (xup S2 3 o 1 ((S2 3 o 1) + (1 : Int32))) fun S3 =>
    some (S3, none)
def b3_readPhrase_L2 (o : Nat)  (k2 : xSt → Int32 → Int32 → Int32 → Option xR) (S : xSt) (i1 : Int32) (i2 : Int32) (i3 : Int32) : Option xR :=
  if (i1 + i2) ≤ i3 then
    some (S, none)
  else
    if (S 3 o 1) ≤ i3 then
      some (S, none)
    else
      xat i3 39621 fun j1 =>
      xbV (f3_readSign S o (S 19 o j1)) fun S2 =>
      k2 S2 i1 i2 (i3 + (1 : Int32))
def f3_readPhrase_L2 (o : Nat)  : Nat → xSt → Int32 → Int32 → Int32 → Option xR
  | 0 => fun _ _ _ _ => none
  | n + 1 => b3_readPhrase_L2 o  (f3_readPhrase_L2 o  n)
def f3_readPhrase (S : xSt) (o : Nat) (a1 : Int32) (a2 : Int32) : Option xR :=
  f3_readPhrase_L2 o xFU S a1 a2 a1
def f3_readEntry_J67 (o : Nat)  (S : xSt) (i1 : Int32) : Option xR :=
  xlet (xup S 3 o 9 (S 3 o 1)) fun S1 =>
  if (8 : Int32) ≤ i1 then
    xat i1 512 fun j2 =>
    xlet (xup S1 3 o 10 (S1 21 o j2)) fun S3 =>
    xat i1 512 fun j4 =>
    xat i1 512 fun j5 =>
    xbV (f3_readPhrase S3 o (S3 20 o j4) (S3 21 o j5)) fun S6 =>
    some (S6, none)
  else
    xlet (xup S1 3 o 10 (1 : Int32)) fun S7 =>
    xbV (f3_readSign S7 o i1) fun S8 =>
    some (S8, none)
def f3_readEntry_J18 (o : Nat)  (S : xSt) (i1 : Int32) (k0 : Int32) (k1 : Int32) : Option xR :=
  xlet (xup S 3 o 3 (k1 + k0)) fun S1 =>
  xbI (f3_canGrow S1 o) fun S2 r3 =>
  if r3 = 0 then
    f3_readEntry_J67 o S2 i1
  else
    xat (S2 3 o 2) 512 fun j4 =>
    xlet (xup S2 20 o j4 (S2 3 o 9)) fun S5 =>
    xat (S5 3 o 2) 512 fun j6 =>
    xlet (xup S5 21 o j6 ((S5 3 o 10) + (1 : Int32))) fun S7 =>
    xlet (xup S7 3 o 2 ((S7 3 o 2) + (1 : Int32))) fun S8 =>
    f3_readEntry_J67 o S8 i1
def f3_readEntry (S : xSt) (o : Nat) (a1 : Int32) : Option xR :=
  if a1 = (S 3 o 2) then
    f3_readEntry_J18 o S a1 (1 : Int32) (S 3 o 3)
  else
    f3_readEntry_J18 o S a1 (0 : Int32) (S 3 o 3)
def f3_readAll_J91 (o : Nat) (o1 : Nat)  (S : xSt) (i2 : Int32) : Option xR :=
  xbV (f3_noteFault S o i2 (2 : Int32)) fun S1 =>
  some (S1, none)
def f3_readAll_J77 (o : Nat) (o1 : Nat)  (S : xSt) (i4 : Int32) : Option xR :=
  xbV (f3_noteFault S o i4 (1 : Int32)) fun S1 =>
  some (S1, none)
def f3_readAll_J85 (o : Nat) (o1 : Nat) (k8 : xSt → Int32 → Int32 → Option xR) (S : xSt) (i2 : Int32) (i4 : Int32) : Option xR :=
  k8 S i2 (i4 + (1 : Int32))
def f3_readAll_J27 (o : Nat) (o1 : Nat)  (S : xSt) (i2 : Int32) (i4 : Int32) : Option xR :=
  if i2 ≤ (i4 + (1 : Int32)) then
    some (S, none)
  else
    xbV (f3_noteFault S o (i4 + (1 : Int32)) (3 : Int32)) fun S1 =>
    some (S1, none)
def b3_readAll_L8 (o : Nat) (o1 : Nat)  (k8 : xSt → Int32 → Int32 → Option xR) (S : xSt) (i2 : Int32) (i4 : Int32) : Option xR :=
  if i2 ≤ i4 then
    f3_readAll_J91 o o1 S i2
  else
    xat i4 281 fun j1 =>
    if (S 32 o1 j1) = (9 : Int32) then
      f3_readAll_J27 o o1 S i2 i4
    else
      if (S 32 o1 j1) = (8 : Int32) then
        xbV (f3_dropPhrases S o) fun S5 =>
        f3_readAll_J85 o o1 k8 S5 i2 i4
      else
        xbI (f3_canStand S o (S 32 o1 j1)) fun S2 r3 =>
        if r3 = 0 then
          f3_readAll_J77 o o1 S2 i4
        else
          xbV (f3_readEntry S2 o (S 32 o1 j1)) fun S4 =>
          f3_readAll_J85 o o1 k8 S4 i2 i4
def f3_readAll_L8 (o : Nat) (o1 : Nat)  : Nat → xSt → Int32 → Int32 → Option xR
  | 0 => fun _ _ _ => none
  | n + 1 => b3_readAll_L8 o o1  (f3_readAll_L8 o o1  n)
def f3_readAll (S : xSt) (o : Nat) (o1 : Nat) (a2 : Int32) (a3 : Int32) : Option xR :=
  xbV (f3_begin S o a3) fun S1 =>
  f3_readAll_L8 o o1 xFU S1 a2 (0 : Int32)
def f6_refresh_J92   (S : xSt)  : Option xR :=
  xat (0 : Int32) 3 fun j1 =>
  xbV (f3_readAll S 0 0 (S 5 0 6) (S 22 0 j1)) fun S2 =>
  some (S2, none)
def b6_refresh_L50   (k50 : xSt → Int32 → Option xR) (S : xSt) (i1 : Int32) : Option xR :=
  if (S 5 0 6) ≤ i1 then
    f6_refresh_J92 S 
  else
    xat i1 281 fun j1 =>
    xat i1 281 fun j2 =>
    xat i1 281 fun j3 =>
    xlet (xup S 32 0 j3 ((S 25 0 j1) ^^^ (S 24 0 j2))) fun S4 =>
    k50 S4 (i1 + (1 : Int32))
def f6_refresh_L50   : Nat → xSt → Int32 → Option xR
  | 0 => fun _ _ => none
  | n + 1 => b6_refresh_L50   (f6_refresh_L50   n)
def f6_refresh (S : xSt)   : Option xR :=
  xat (0 : Int32) 3 fun j1 =>
  xat (1 : Int32) 3 fun j2 =>
  xat (2 : Int32) 3 fun j3 =>
  xbV (f5_writeOut S 0 0 (S 4 0 3) (S 22 0 j1) (S 22 0 j2) (S 22 0 j3)) fun S4 =>
  f6_refresh_L50 xFU S4 (0 : Int32)
def f6_set (S : xSt)  (a1 : Int32) (a2 : Int32) : Option xR :=
  xbI (f6_isSetting S a1 a2) fun S1 r2 =>
  if r2 = 0 then
    some (S1, some (.int (-2 : Int32)))
  else
    xbV (f1_record S1 0) fun S3 =>
    xat a1 3 fun j4 =>
    xat a1 3 fun j5 =>
    xlet (xup S3 22 0 j5 a2) fun S6 =>
    xbV (f4_mendCodes S6 0) fun S7 =>
    xbV (f6_refresh S7) fun S8 =>
    some (S8, some (.int (S3 22 0 j4)))
def f6_add (S : xSt)  (a1 : Int32) (a2 : Int32) : Option xR :=
  if a1 < 0 then
    some (S, some (.int (-2 : Int32)))
  else
    if (8 : Int32) ≤ a1 then
      some (S, some (.int (-2 : Int32)))
    else
      if a2 < (1 : Int32) then
        some (S, some (.int (-2 : Int32)))
      else
        if a2 ≤ (240 : Int32) then
          if ((S 4 0 3) + a2) ≤ (240 : Int32) then
            xbV (f1_record S 0) fun S1 =>
            xbV (ffill4 S1 23 0 240 (S1 4 0 3) ((S1 4 0 3) + a2) a1) fun S2 =>
            xlet (xup S2 4 0 3 ((S2 4 0 3) + a2)) fun S3 =>
            xbV (f4_mendCodes S3 0) fun S4 =>
            xbV (f6_refresh S4) fun S5 =>
            some (S5, some (.int (S5 4 0 3)))
          else
            some (S, some (.int (-4 : Int32)))
        else
          some (S, some (.int (-2 : Int32)))
def f6_cut (S : xSt)  (a1 : Int32) : Option xR :=
  if a1 < (1 : Int32) then
    some (S, some (.int (-2 : Int32)))
  else
    if a1 ≤ (240 : Int32) then
      if a1 ≤ (S 4 0 3) then
        xbV (f1_record S 0) fun S1 =>
        xlet (xup S1 4 0 3 ((S1 4 0 3) - a1)) fun S2 =>
        xbV (f4_mendCodes S2 0) fun S3 =>
        xbV (f6_refresh S3) fun S4 =>
        some (S4, some (.int (S4 4 0 3)))
      else
        some (S, some (.int (-5 : Int32)))
    else
      some (S, some (.int (-2 : Int32)))
def f6_isCode (S : xSt)  (a1 : Int32) : Option xR :=
  if a1 < 0 then
    xne ((0 : Int32) &&& 1 = (0 : Int32)) (some (S, some (.int (0 : Int32))))
  else
    if (S 5 0 6) ≤ a1 then
      xne ((0 : Int32) &&& 1 = (0 : Int32)) (some (S, some (.int (0 : Int32))))
    else
      if (281 : Int32) ≤ a1 then
        xne ((0 : Int32) &&& 1 = (0 : Int32)) (some (S, some (.int (0 : Int32))))
      else
        xne ((1 : Int32) &&& 1 = (1 : Int32)) (some (S, some (.int (1 : Int32))))
def f6_spoil (S : xSt)  (a1 : Int32) (a2 : Int32) : Option xR :=
  xbI (f6_isCode S a1) fun S1 r2 =>
  if r2 = 0 then
    some (S1, some (.int (-1 : Int32)))
  else
    if a2 < (1 : Int32) then
      some (S1, some (.int (-2 : Int32)))
    else
      if a2 ≤ (511 : Int32) then
        xbV (f1_record S1 0) fun S3 =>
        xat a1 281 fun j4 =>
        xat a1 281 fun j5 =>
        xlet (xup S3 24 0 j5 ((S3 24 0 j4) ^^^ a2)) fun S6 =>
        xbV (f6_refresh S6) fun S7 =>
        xat a1 281 fun j8 =>
        some (S7, some (.int (S7 32 0 j8)))
      else
        some (S1, some (.int (-2 : Int32)))
def f6_sign_J15   (S : xSt)  : Option xR :=
  some (S, some (.int (-1 : Int32)))
def f6_sign (S : xSt)  (a1 : Int32) : Option xR :=
  if a1 < 0 then
    f6_sign_J15 S 
  else
    if a1 < (S 4 0 3) then
      xat a1 240 fun j1 =>
      some (S, some (.int (S 23 0 j1)))
    else
      f6_sign_J15 S 
def f6_ofCode (S : xSt)  (a1 : Int32) (a2 : Int32) : Option xR :=
  xbI (f6_isCode S a1) fun S1 r2 =>
  if r2 = 0 then
    some (S1, some (.int (-1 : Int32)))
  else
    if a2.toInt < 0 ∨ 5 < a2.toInt then
      some (S1, some (.int (-2 : Int32)))
    else match (a2.toInt - 0).toNat with
    | 0 =>
      xat a1 281 fun j3 =>
      some (S1, some (.int (S1 25 0 j3)))
    | 1 =>
      xat a1 281 fun j4 =>
      some (S1, some (.int (S1 32 0 j4)))
    | 2 =>
      xat a1 281 fun j5 =>
      some (S1, some (.int (S1 26 0 j5)))
    | 3 =>
      xat a1 281 fun j6 =>
      some (S1, some (.int (S1 27 0 j6)))
    | 4 =>
      xat a1 281 fun j7 =>
      some (S1, some (.int (S1 28 0 j7)))
    | 5 =>
      xat a1 281 fun j8 =>
      some (S1, some (.int (S1 29 0 j8)))
    | _ => none
def f4_countSpoiled_J26 (o : Nat) (k4 : xSt → Int32 → Int32 → Option xR) (S : xSt) (i2 : Int32) (k0 : Int32) (k1 : Int32) : Option xR :=
  k4 S (k1 + k0) (i2 + (1 : Int32))
def b4_countSpoiled_L4 (o : Nat)  (k4 : xSt → Int32 → Int32 → Option xR) (S : xSt) (i1 : Int32) (i2 : Int32) : Option xR :=
  if (281 : Int32) ≤ i2 then
    some (S, some (.int i1))
  else
    xat i2 281 fun j1 =>
    if (S 24 o j1) = 0 then
      f4_countSpoiled_J26 o k4 S i2 (0 : Int32) i1
    else
      f4_countSpoiled_J26 o k4 S i2 (1 : Int32) i1
def f4_countSpoiled_L4 (o : Nat)  : Nat → xSt → Int32 → Int32 → Option xR
  | 0 => fun _ _ _ => none
  | n + 1 => b4_countSpoiled_L4 o  (f4_countSpoiled_L4 o  n)
def f4_countSpoiled (S : xSt) (o : Nat)  : Option xR :=
  f4_countSpoiled_L4 o xFU S (0 : Int32) (0 : Int32)
def f6_count (S : xSt)  (a1 : Int32) : Option xR :=
  if a1.toInt < 0 ∨ 11 < a1.toInt then
    some (S, some (.int (-2 : Int32)))
  else match (a1.toInt - 0).toNat with
  | 0 =>
    some (S, some (.int (S 4 0 3)))
  | 1 =>
    some (S, some (.int (S 5 0 6)))
  | 2 =>
    some (S, some (.int (S 5 0 7)))
  | 3 =>
    some (S, some (.int (S 5 0 8)))
  | 4 =>
    some (S, some (.int (S 0 0 4)))
  | 5 =>
    some (S, some (.int (S 5 0 9)))
  | 6 =>
    xbI (f4_countSpoiled S 0) fun S1 r2 =>
    some (S1, some (.int r2))
  | 7 =>
    some (S, some (.int (S 2 0 4)))
  | 8 =>
    some (S, some (.int (S 1 0 2)))
  | 9 =>
    xat (0 : Int32) 3 fun j3 =>
    some (S, some (.int (S 22 0 j3)))
  | 10 =>
    xat (1 : Int32) 3 fun j4 =>
    some (S, some (.int (S 22 0 j4)))
  | 11 =>
    xat (2 : Int32) 3 fun j5 =>
    some (S, some (.int (S 22 0 j5)))
  | _ => none
def f6_entry (S : xSt)  (a1 : Int32) (a2 : Int32) : Option xR :=
  if a1 < 0 then
    some (S, some (.int (-1 : Int32)))
  else
    if (S 0 0 4) ≤ a1 then
      some (S, some (.int (-1 : Int32)))
    else
      if a1 < (512 : Int32) then
        if a2.toInt < 0 ∨ 2 < a2.toInt then
          some (S, some (.int (-2 : Int32)))
        else match (a2.toInt - 0).toNat with
        | 0 =>
          xat a1 512 fun j1 =>
          some (S, some (.int (S 12 0 j1)))
        | 1 =>
          xat a1 512 fun j2 =>
          some (S, some (.int (S 11 0 j2)))
        | 2 =>
          xat a1 512 fun j3 =>
          some (S, some (.int (S 10 0 j3)))
        | _ => none
      else
        some (S, some (.int (-1 : Int32)))
def f3_firstDifference_J41 (o : Nat) (o1 : Nat)  (S : xSt) (i2 : Int32) (i3 : Int32) : Option xR :=
  if (S 3 o 1) = i2 then
    some (S, some (.int (-6 : Int32)))
  else
    some (S, some (.int i3))
def b3_firstDifference_L12 (o : Nat) (o1 : Nat)  (k12 : xSt → Int32 → Int32 → Int32 → Option xR) (S : xSt) (i2 : Int32) (i3 : Int32) (i4 : Int32) : Option xR :=
  if i3 ≤ i4 then
    f3_firstDifference_J41 o o1 S i2 i3
  else
    xat i4 39621 fun j1 =>
    xat i4 240 fun j2 =>
    if (S 19 o j1) = (S 23 o1 j2) then
      k12 S i2 i3 (i4 + (1 : Int32))
    else
      some (S, some (.int i4))
def f3_firstDifference_L12 (o : Nat) (o1 : Nat)  : Nat → xSt → Int32 → Int32 → Int32 → Option xR
  | 0 => fun _ _ _ _ => none
  | n + 1 => b3_firstDifference_L12 o o1  (f3_firstDifference_L12 o o1  n)
def f3_firstDifference (S : xSt) (o : Nat) (o1 : Nat) (a2 : Int32) : Option xR :=
  f3_firstDifference_L12 o o1 xFU S a2 (if a2 < (S 3 o 1) then a2 else (S 3 o 1)) (0 : Int32)
def f6_reading (S : xSt)  (a1 : Int32) : Option xR :=
  if a1.toInt < 0 ∨ 5 < a1.toInt then
    some (S, some (.int (-2 : Int32)))
  else match (a1.toInt - 0).toNat with
  | 0 =>
    some (S, some (.int (S 3 0 1)))
  | 1 =>
    some (S, some (.int (S 3 0 4)))
  | 2 =>
    some (S, some (.int (S 3 0 5)))
  | 3 =>
    some (S, some (.int (S 3 0 2)))
  | 4 =>
    some (S, some (.int (S 3 0 3)))
  | 5 =>
    xbI (f3_firstDifference S 0 0 (S 4 0 3)) fun S1 r2 =>
    some (S1, some (.int r2))
  | _ => none
def f6_read_J21   (S : xSt)  : Option xR :=
  some (S, some (.int (-1 : Int32)))
def f6_read (S : xSt)  (a1 : Int32) : Option xR :=
  if a1 < 0 then
    f6_read_J21 S 
  else
    if (S 3 0 1) ≤ a1 then
      f6_read_J21 S 
    else
      if a1 < (39621 : Int32) then
        xat a1 39621 fun j1 =>
        some (S, some (.int (S 19 0 j1)))
      else
        f6_read_J21 S 
def fW_cell_J28  (L : Nat) (xs : Nat → Int32)  (S : xSt) (i2 : Int32) (k0 : Int32) : Option xR :=
  xne (¬ i2 = 0) <|
  some (S, some (.int (k0 - k0 / i2 * i2)))
def fW_cell (S : xSt)  (L : Nat) (xs : Nat → Int32) (a1 : Int32) (a2 : Int32) : Option xR :=
  if (nI L) = 0 then
    fW_cell_J28 L xs S a2 ((a1 * (37 : Int32)) + (5 : Int32))
  else
    xne (¬ (nI L) = 0) <|
    xat (a1 - a1 / (nI L) * (nI L)) L fun j1 =>
    xne (¬ (7 : Int32) = 0) <|
    fW_cell_J28 L xs S a2 (((xs j1) >>> ((a1 - a1 / (7 : Int32) * (7 : Int32)) &&& 31)) &&& (4194303 : Int32))
def bW_bits_L2   (k2 : xSt → Int32 → Int32 → Option xR) (S : xSt) (i0 : Int32) (i1 : Int32) : Option xR :=
  if (i0 - (1 : Int32)) < ((1 : Int32) <<< (i1 &&& 31)) then
    some (S, some (.int i1))
  else
    k2 S i0 (i1 + (1 : Int32))
def fW_bits_L2   : Nat → xSt → Int32 → Int32 → Option xR
  | 0 => fun _ _ _ => none
  | n + 1 => bW_bits_L2   (fW_bits_L2   n)
def fW_bits (S : xSt)  (a0 : Int32) : Option xR :=
  fW_bits_L2 xFU S a0 (4 : Int32)
def fW_isAlike_J67  (k32 : xSt → Int32 → Int32 → Int32 → Int32 → Int32 → Option xR) (S : xSt) (i1 : Int32) (i2 : Int32) (i3 : Int32) (i5 : Int32) (k0 : Int32) : Option xR :=
  k32 S i1 i2 i3 k0 (i5 + (1 : Int32))
def bW_isAlike_L32   (k32 : xSt → Int32 → Int32 → Int32 → Int32 → Int32 → Option xR) (S : xSt) (i1 : Int32) (i2 : Int32) (i3 : Int32) (i4 : Int32) (i5 : Int32) : Option xR :=
  if i3 ≤ i5 then
    xne (i4 &&& 1 = i4) (some (S, some (.int i4)))
  else
    if i4 = 0 then
      xne (i4 &&& 1 = i4) (some (S, some (.int i4)))
    else
      xbI (f6_sign S (i1 + i5)) fun S1 r2 =>
      xbI (f6_sign S1 (i2 + i5)) fun S3 r4 =>
      if r2 = r4 then
        fW_isAlike_J67 k32 S3 i1 i2 i3 i5 (1 : Int32)
      else
        fW_isAlike_J67 k32 S3 i1 i2 i3 i5 (0 : Int32)
def fW_isAlike_L32   : Nat → xSt → Int32 → Int32 → Int32 → Int32 → Int32 → Option xR
  | 0 => fun _ _ _ _ _ _ => none
  | n + 1 => bW_isAlike_L32   (fW_isAlike_L32   n)
def fW_isAlike_J27   (S : xSt) (i1 : Int32) (i2 : Int32) (i3 : Int32) (k0 : Int32) : Option xR :=
  fW_isAlike_L32 xFU S i1 i2 i3 k0 (0 : Int32)
def fW_isAlike_J26   (S : xSt) (i1 : Int32) (i2 : Int32) (i3 : Int32) : Option xR :=
  fW_isAlike_J27 S i1 i2 i3 (0 : Int32)
def fW_isAlike (S : xSt)  (a1 : Int32) (a2 : Int32) (a3 : Int32) : Option xR :=
  xbI (f6_count S (0 : Int32)) fun S1 r2 =>
  if r2 < (a1 + a3) then
    fW_isAlike_J26 S1 a1 a2 a3
  else
    xbI (f6_count S1 (0 : Int32)) fun S3 r4 =>
    if r4 < (a2 + a3) then
      fW_isAlike_J26 S3 a1 a2 a3
    else
      fW_isAlike_J27 S3 a1 a2 a3 (1 : Int32)
def fW_areCodes_J695   (S : xSt) (i1 : Int32) (i2 : Int32) (i9 : Int32) (i11 : Int32) (i13 : Int32) (i14 : Int32) (i15 : Int32) : Option xR :=
  if i9 = i2 then
    xbI (f6_count S (2 : Int32)) fun S1 r2 =>
    if r2 = i13 then
      xbI (f6_count S1 (3 : Int32)) fun S3 r4 =>
      if r4 = i14 then
        xbI (f6_count S3 (4 : Int32)) fun S5 r6 =>
        if r6 = i11 then
          xbI (f6_count S5 (5 : Int32)) fun S7 r8 =>
          if r8 = i15 then
            xbI (f6_ofCode S7 i1 (0 : Int32)) fun S9 r10 =>
            if r10 = (-1 : Int32) then
              xne ((1 : Int32) &&& 1 = (1 : Int32)) (some (S9, some (.int (1 : Int32))))
            else
              xne ((0 : Int32) &&& 1 = (0 : Int32)) (some (S9, some (.int (0 : Int32))))
          else
            xne ((0 : Int32) &&& 1 = (0 : Int32)) (some (S7, some (.int (0 : Int32))))
        else
          xne ((0 : Int32) &&& 1 = (0 : Int32)) (some (S5, some (.int (0 : Int32))))
      else
        xne ((0 : Int32) &&& 1 = (0 : Int32)) (some (S3, some (.int (0 : Int32))))
    else
      xne ((0 : Int32) &&& 1 = (0 : Int32)) (some (S1, some (.int (0 : Int32))))
  else
    xne ((0 : Int32) &&& 1 = (0 : Int32)) (some (S, some (.int (0 : Int32))))
def fW_areCodes_J689  (k134 : xSt → Int32 → Int32 → Int32 → Int32 → Int32 → Int32 → Int32 → Int32 → Int32 → Int32 → Int32 → Int32 → Int32 → Int32 → Option xR) (S : xSt) (i1 : Int32) (i2 : Int32) (i3 : Int32) (i4 : Int32) (i5 : Int32) (i9 : Int32) (i10 : Int32) (i11 : Int32) (i12 : Int32) (i13 : Int32) (i14 : Int32) (i15 : Int32) (i16 : Int32) (i17 : Int32) : Option xR :=
  k134 S i1 i2 i3 i4 i5 i9 i10 i11 i12 i13 i14 i15 i16 (i17 + (1 : Int32))
def fW_areCodes_J270  (k134 : xSt → Int32 → Int32 → Int32 → Int32 → Int32 → Int32 → Int32 → Int32 → Int32 → Int32 → Int32 → Int32 → Int32 → Int32 → Option xR) (S : xSt) (i1 : Int32) (i2 : Int32) (i3 : Int32) (i4 : Int32) (i5 : Int32) (i9 : Int32) (i12 : Int32) (i13 : Int32) (i14 : Int32) (i15 : Int32) (i17 : Int32) (k0 : Int32) : Option xR :=
  fW_areCodes_J689 k134 S i1 i2 i3 i4 i5 i9 (i17 + (1 : Int32)) k0 i12 i13 i14 i15 (0 : Int32) i17
def fW_areCodes_J255  (k134 : xSt → Int32 → Int32 → Int32 → Int32 → Int32 → Int32 → Int32 → Int32 → Int32 → Int32 → Int32 → Int32 → Int32 → Int32 → Option xR) (S : xSt) (i1 : Int32) (i2 : Int32) (i3 : Int32) (i4 : Int32) (i5 : Int32) (i9 : Int32) (i11 : Int32) (i12 : Int32) (i13 : Int32) (i15 : Int32) (i16 : Int32) (i17 : Int32) (k0 : Int32) (k1 : Int32) : Option xR :=
  if i16 = 0 then
    fW_areCodes_J270 k134 S i1 i2 i3 i4 i5 i9 i12 i13 (k1 + k0) i15 i17 i11
  else
    fW_areCodes_J270 k134 S i1 i2 i3 i4 i5 i9 i12 i13 (k1 + k0) i15 i17 (10 : Int32)
def fW_areCodes_J243  (k134 : xSt → Int32 → Int32 → Int32 → Int32 → Int32 → Int32 → Int32 → Int32 → Int32 → Int32 → Int32 → Int32 → Int32 → Int32 → Option xR) (S : xSt) (i1 : Int32) (i2 : Int32) (i3 : Int32) (i4 : Int32) (i5 : Int32) (i9 : Int32) (i11 : Int32) (i12 : Int32) (i13 : Int32) (i14 : Int32) (i15 : Int32) (i16 : Int32) (i17 : Int32) : Option xR :=
  if i16 = 0 then
    fW_areCodes_J255 k134 S i1 i2 i3 i4 i5 i9 i11 i12 i13 i15 i16 i17 (0 : Int32) i14
  else
    fW_areCodes_J255 k134 S i1 i2 i3 i4 i5 i9 i11 i12 i13 i15 i16 i17 (1 : Int32) i14
def fW_areCodes_J207  (k134 : xSt → Int32 → Int32 → Int32 → Int32 → Int32 → Int32 → Int32 → Int32 → Int32 → Int32 → Int32 → Int32 → Int32 → Int32 → Option xR) (S : xSt) (i1 : Int32) (i2 : Int32) (i3 : Int32) (i4 : Int32) (i5 : Int32) (i9 : Int32) (i11 : Int32) (i12 : Int32) (i13 : Int32) (i14 : Int32) (i15 : Int32) (i16 : Int32) (i17 : Int32) (k0 : Int32) (k1 : Int32) : Option xR :=
  if k1 = k0 then
    xat i17 64 fun j1 =>
    if (S 33 1 j1) = (-6 : Int32) then
      xat i17 64 fun j2 =>
      if (S 33 2 j2) = 0 then
        if i16 = 0 then
          if i17 = (i1 - (1 : Int32)) then
            fW_areCodes_J243 k134 S i1 i2 i3 i4 i5 i9 i11 i12 i13 i14 i15 i16 i17
          else
            xne ((0 : Int32) &&& 1 = (0 : Int32)) (some (S, some (.int (0 : Int32))))
        else
          fW_areCodes_J243 k134 S i1 i2 i3 i4 i5 i9 i11 i12 i13 i14 i15 i16 i17
      else
        xne ((0 : Int32) &&& 1 = (0 : Int32)) (some (S, some (.int (0 : Int32))))
    else
      xne ((0 : Int32) &&& 1 = (0 : Int32)) (some (S, some (.int (0 : Int32))))
  else
    xne ((0 : Int32) &&& 1 = (0 : Int32)) (some (S, some (.int (0 : Int32))))
def fW_areCodes_J190  (k134 : xSt → Int32 → Int32 → Int32 → Int32 → Int32 → Int32 → Int32 → Int32 → Int32 → Int32 → Int32 → Int32 → Int32 → Int32 → Option xR) (S : xSt) (i1 : Int32) (i2 : Int32) (i3 : Int32) (i4 : Int32) (i5 : Int32) (i9 : Int32) (i11 : Int32) (i12 : Int32) (i13 : Int32) (i14 : Int32) (i15 : Int32) (i16 : Int32) (i17 : Int32) : Option xR :=
  xat i17 64 fun j1 =>
  if i16 = 0 then
    fW_areCodes_J207 k134 S i1 i2 i3 i4 i5 i9 i11 i12 i13 i14 i15 i16 i17 (9 : Int32) (S 33 0 j1)
  else
    fW_areCodes_J207 k134 S i1 i2 i3 i4 i5 i9 i11 i12 i13 i14 i15 i16 i17 (8 : Int32) (S 33 0 j1)
def fW_areCodes_J687  (k134 : xSt → Int32 → Int32 → Int32 → Int32 → Int32 → Int32 → Int32 → Int32 → Int32 → Int32 → Int32 → Int32 → Int32 → Int32 → Option xR) (S : xSt) (i1 : Int32) (i2 : Int32) (i3 : Int32) (i4 : Int32) (i5 : Int32) (i9 : Int32) (i10 : Int32) (i11 : Int32) (i12 : Int32) (i13 : Int32) (i14 : Int32) (i15 : Int32) (i17 : Int32) (k0 : Int32) : Option xR :=
  fW_areCodes_J689 k134 S i1 i2 i3 i4 i5 i9 i10 i11 i12 i13 i14 i15 k0 i17
def fW_areCodes_J686  (k134 : xSt → Int32 → Int32 → Int32 → Int32 → Int32 → Int32 → Int32 → Int32 → Int32 → Int32 → Int32 → Int32 → Int32 → Int32 → Option xR) (S : xSt) (i1 : Int32) (i2 : Int32) (i3 : Int32) (i4 : Int32) (i5 : Int32) (i9 : Int32) (i10 : Int32) (i11 : Int32) (i12 : Int32) (i13 : Int32) (i14 : Int32) (i15 : Int32) (i17 : Int32) : Option xR :=
  fW_areCodes_J687 k134 S i1 i2 i3 i4 i5 i9 i10 i11 i12 i13 i14 i15 i17 (0 : Int32)
def fW_areCodes_J682  (k134 : xSt → Int32 → Int32 → Int32 → Int32 → Int32 → Int32 → Int32 → Int32 → Int32 → Int32 → Int32 → Int32 → Int32 → Int32 → Option xR) (S : xSt) (i1 : Int32) (i2 : Int32) (i3 : Int32) (i4 : Int32) (i5 : Int32) (i9 : Int32) (i10 : Int32) (i11 : Int32) (i12 : Int32) (i13 : Int32) (i14 : Int32) (i15 : Int32) (i17 : Int32) : Option xR :=
  fW_areCodes_J687 k134 S i1 i2 i3 i4 i5 i9 i10 i11 i12 i13 i14 i15 i17 (1 : Int32)
def fW_areCodes_J657  (k134 : xSt → Int32 → Int32 → Int32 → Int32 → Int32 → Int32 → Int32 → Int32 → Int32 → Int32 → Int32 → Int32 → Int32 → Int32 → Option xR) (S : xSt) (i1 : Int32) (i2 : Int32) (i3 : Int32) (i4 : Int32) (i5 : Int32) (i9 : Int32) (i10 : Int32) (i11 : Int32) (i12 : Int32) (i13 : Int32) (i14 : Int32) (i15 : Int32) (i17 : Int32) (i20 : Int32) (i21 : Int32) : Option xR :=
  if i11 = i3 then
    if i4 = (1 : Int32) then
      fW_areCodes_J682 k134 S i1 i2 i3 i4 i5 i9 i10 i11 i12 i13 i14 i15 i17
    else
      if i4 = (2 : Int32) then
        if i21 ≤ i20 then
          fW_areCodes_J686 k134 S i1 i2 i3 i4 i5 i9 i10 i11 i12 i13 i14 i15 i17
        else
          fW_areCodes_J682 k134 S i1 i2 i3 i4 i5 i9 i10 i11 i12 i13 i14 i15 i17
      else
        fW_areCodes_J686 k134 S i1 i2 i3 i4 i5 i9 i10 i11 i12 i13 i14 i15 i17
  else
    fW_areCodes_J686 k134 S i1 i2 i3 i4 i5 i9 i10 i11 i12 i13 i14 i15 i17
def bW_areCodes_L601  (k134 : xSt → Int32 → Int32 → Int32 → Int32 → Int32 → Int32 → Int32 → Int32 → Int32 → Int32 → Int32 → Int32 → Int32 → Int32 → Option xR) (k601 : xSt → Int32 → Int32 → Int32 → Int32 → Int32 → Int32 → Int32 → Int32 → Int32 → Int32 → Int32 → Int32 → Int32 → Int32 → Int32 → Int32 → Option xR) (S : xSt) (i1 : Int32) (i2 : Int32) (i3 : Int32) (i4 : Int32) (i5 : Int32) (i9 : Int32) (i10 : Int32) (i11 : Int32) (i12 : Int32) (i13 : Int32) (i14 : Int32) (i15 : Int32) (i17 : Int32) (i20 : Int32) (i21 : Int32) (i22 : Int32) : Option xR :=
  if i5 ≤ i22 then
    fW_areCodes_J657 k134 S i1 i2 i3 i4 i5 i9 i10 i11 i12 i13 i14 i15 i17 i20 i21
  else
    if ((i17 + (1 : Int32)) - i12) < ((2 : Int32) * i5) then
      fW_areCodes_J657 k134 S i1 i2 i3 i4 i5 i9 i10 i11 i12 i13 i14 i15 i17 i20 i21
    else
      xat (i17 - i22) 64 fun j1 =>
      xat ((i17 - i5) - i22) 64 fun j2 =>
      k601 S i1 i2 i3 i4 i5 i9 i10 i11 i12 i13 i14 i15 i17 (i20 + (S 33 2 j1)) (i21 + (S 33 2 j2)) (i22 + (1 : Int32))
def fW_areCodes_L601  (k134 : xSt → Int32 → Int32 → Int32 → Int32 → Int32 → Int32 → Int32 → Int32 → Int32 → Int32 → Int32 → Int32 → Int32 → Int32 → Option xR) : Nat → xSt → Int32 → Int32 → Int32 → Int32 → Int32 → Int32 → Int32 → Int32 → Int32 → Int32 → Int32 → Int32 → Int32 → Int32 → Int32 → Int32 → Option xR
  | 0 => fun _ _ _ _ _ _ _ _ _ _ _ _ _ _ _ _ _ => none
  | n + 1 => bW_areCodes_L601  k134 (fW_areCodes_L601  k134 n)
def fW_areCodes_J590  (k134 : xSt → Int32 → Int32 → Int32 → Int32 → Int32 → Int32 → Int32 → Int32 → Int32 → Int32 → Int32 → Int32 → Int32 → Int32 → Option xR) (S : xSt) (i1 : Int32) (i2 : Int32) (i3 : Int32) (i4 : Int32) (i5 : Int32) (i9 : Int32) (i10 : Int32) (i11 : Int32) (i13 : Int32) (i14 : Int32) (i15 : Int32) (i17 : Int32) (k0 : Int32) : Option xR :=
  fW_areCodes_L601 k134 xFU S i1 i2 i3 i4 i5 i9 i10 i11 k0 i13 i14 i15 i17 (0 : Int32) (0 : Int32) (0 : Int32)
def fW_areCodes_J574  (k134 : xSt → Int32 → Int32 → Int32 → Int32 → Int32 → Int32 → Int32 → Int32 → Int32 → Int32 → Int32 → Int32 → Int32 → Int32 → Option xR) (S : xSt) (i1 : Int32) (i2 : Int32) (i3 : Int32) (i4 : Int32) (i5 : Int32) (i9 : Int32) (i10 : Int32) (i11 : Int32) (i12 : Int32) (i13 : Int32) (i14 : Int32) (i17 : Int32) (i19 : Int32) (k0 : Int32) : Option xR :=
  if i19 = 0 then
    fW_areCodes_J590 k134 S i1 i2 i3 i4 i5 i9 i10 i11 i13 i14 k0 i17 i12
  else
    fW_areCodes_J590 k134 S i1 i2 i3 i4 i5 i9 i10 i11 i13 i14 k0 i17 (i17 + (1 : Int32))
def fW_areCodes_J572  (k134 : xSt → Int32 → Int32 → Int32 → Int32 → Int32 → Int32 → Int32 → Int32 → Int32 → Int32 → Int32 → Int32 → Int32 → Int32 → Option xR) (S : xSt) (i1 : Int32) (i2 : Int32) (i3 : Int32) (i4 : Int32) (i5 : Int32) (i9 : Int32) (i10 : Int32) (i11 : Int32) (i12 : Int32) (i13 : Int32) (i14 : Int32) (i15 : Int32) (i17 : Int32) (i19 : Int32) : Option xR :=
  fW_areCodes_J574 k134 S i1 i2 i3 i4 i5 i9 i10 i11 i12 i13 i14 i17 i19 i15
def fW_areCodes_J542  (k134 : xSt → Int32 → Int32 → Int32 → Int32 → Int32 → Int32 → Int32 → Int32 → Int32 → Int32 → Int32 → Int32 → Int32 → Int32 → Option xR) (S : xSt) (i1 : Int32) (i2 : Int32) (i3 : Int32) (i4 : Int32) (i5 : Int32) (i9 : Int32) (i10 : Int32) (i12 : Int32) (i13 : Int32) (i14 : Int32) (i15 : Int32) (i17 : Int32) (i19 : Int32) (k0 : Int32) (k1 : Int32) : Option xR :=
  if i19 = 0 then
    fW_areCodes_J572 k134 S i1 i2 i3 i4 i5 i9 i10 (k1 + k0) i12 i13 i14 i15 i17 i19
  else
    xat i17 64 fun j1 =>
    if ((S 33 2 j1) + (1 : Int32)) ≤ i15 then
      fW_areCodes_J572 k134 S i1 i2 i3 i4 i5 i9 i10 (k1 + k0) i12 i13 i14 i15 i17 i19
    else
      xat i17 64 fun j2 =>
      fW_areCodes_J574 k134 S i1 i2 i3 i4 i5 i9 i10 (k1 + k0) i12 i13 i14 i17 i19 ((S 33 2 j2) + (1 : Int32))
def fW_areCodes_J528  (k134 : xSt → Int32 → Int32 → Int32 → Int32 → Int32 → Int32 → Int32 → Int32 → Int32 → Int32 → Int32 → Int32 → Int32 → Int32 → Option xR) (S : xSt) (i1 : Int32) (i2 : Int32) (i3 : Int32) (i4 : Int32) (i5 : Int32) (i9 : Int32) (i10 : Int32) (i11 : Int32) (i12 : Int32) (i13 : Int32) (i14 : Int32) (i15 : Int32) (i17 : Int32) (k0 : Int32) : Option xR :=
  if k0 = 0 then
    fW_areCodes_J542 k134 S i1 i2 i3 i4 i5 i9 i10 i12 i13 i14 i15 i17 k0 (0 : Int32) i11
  else
    fW_areCodes_J542 k134 S i1 i2 i3 i4 i5 i9 i10 i12 i13 i14 i15 i17 k0 (1 : Int32) i11
def fW_areCodes_J501  (k134 : xSt → Int32 → Int32 → Int32 → Int32 → Int32 → Int32 → Int32 → Int32 → Int32 → Int32 → Int32 → Int32 → Int32 → Int32 → Option xR) (S : xSt) (i1 : Int32) (i2 : Int32) (i3 : Int32) (i4 : Int32) (i5 : Int32) (i9 : Int32) (i10 : Int32) (i11 : Int32) (i12 : Int32) (i13 : Int32) (i14 : Int32) (i15 : Int32) (i16 : Int32) (i17 : Int32) : Option xR :=
  xat i17 64 fun j1 =>
  if i2 ≤ (i9 + (S 33 2 j1)) then
    fW_areCodes_J689 k134 S i1 i2 i3 i4 i5 (i9 + (S 33 2 j1)) i10 i11 i12 i13 i14 i15 i16 i17
  else
    if i3 ≤ i11 then
      fW_areCodes_J528 k134 S i1 i2 i3 i4 i5 (i9 + (S 33 2 j1)) i10 i11 i12 i13 i14 i15 i17 (0 : Int32)
    else
      fW_areCodes_J528 k134 S i1 i2 i3 i4 i5 (i9 + (S 33 2 j1)) i10 i11 i12 i13 i14 i15 i17 (1 : Int32)
def fW_areCodes_J495  (k134 : xSt → Int32 → Int32 → Int32 → Int32 → Int32 → Int32 → Int32 → Int32 → Int32 → Int32 → Int32 → Int32 → Int32 → Int32 → Option xR) (k430 : xSt → Int32 → Int32 → Int32 → Int32 → Int32 → Int32 → Int32 → Int32 → Int32 → Int32 → Int32 → Int32 → Int32 → Int32 → Int32 → Option xR) (S : xSt) (i1 : Int32) (i2 : Int32) (i3 : Int32) (i4 : Int32) (i5 : Int32) (i9 : Int32) (i10 : Int32) (i11 : Int32) (i12 : Int32) (i13 : Int32) (i14 : Int32) (i15 : Int32) (i16 : Int32) (i17 : Int32) (i19 : Int32) : Option xR :=
  k430 S i1 i2 i3 i4 i5 i9 i10 i11 i12 i13 i14 i15 i16 i17 (i19 + (1 : Int32))
def bW_areCodes_L430  (k134 : xSt → Int32 → Int32 → Int32 → Int32 → Int32 → Int32 → Int32 → Int32 → Int32 → Int32 → Int32 → Int32 → Int32 → Int32 → Option xR) (k430 : xSt → Int32 → Int32 → Int32 → Int32 → Int32 → Int32 → Int32 → Int32 → Int32 → Int32 → Int32 → Int32 → Int32 → Int32 → Int32 → Option xR) (S : xSt) (i1 : Int32) (i2 : Int32) (i3 : Int32) (i4 : Int32) (i5 : Int32) (i9 : Int32) (i10 : Int32) (i11 : Int32) (i12 : Int32) (i13 : Int32) (i14 : Int32) (i15 : Int32) (i16 : Int32) (i17 : Int32) (i19 : Int32) : Option xR :=
  if i11 ≤ i19 then
    fW_areCodes_J501 k134 S i1 i2 i3 i4 i5 i9 i10 i11 i12 i13 i14 i15 i16 i17
  else
    xat ((i10 + i19) - (10 : Int32)) 64 fun j1 =>
    xat i17 64 fun j2 =>
    if ((S 33 2 j1) + (1 : Int32)) ≤ (S 33 2 j2) then
      fW_areCodes_J495 k134 k430 S i1 i2 i3 i4 i5 i9 i10 i11 i12 i13 i14 i15 i16 i17 i19
    else
      if i2 < (i9 + ((S 33 2 j1) + (1 : Int32))) then
        fW_areCodes_J495 k134 k430 S i1 i2 i3 i4 i5 i9 i10 i11 i12 i13 i14 i15 i16 i17 i19
      else
        xat ((i10 + i19) - (10 : Int32)) 64 fun j3 =>
        xbI (fW_isAlike S i9 (S 33 1 j3) ((S 33 2 j1) + (1 : Int32))) fun S4 r5 =>
        if r5 = 0 then
          fW_areCodes_J495 k134 k430 S4 i1 i2 i3 i4 i5 i9 i10 i11 i12 i13 i14 i15 i16 i17 i19
        else
          xne ((0 : Int32) &&& 1 = (0 : Int32)) (some (S4, some (.int (0 : Int32))))
def fW_areCodes_L430  (k134 : xSt → Int32 → Int32 → Int32 → Int32 → Int32 → Int32 → Int32 → Int32 → Int32 → Int32 → Int32 → Int32 → Int32 → Int32 → Option xR) : Nat → xSt → Int32 → Int32 → Int32 → Int32 → Int32 → Int32 → Int32 → Int32 → Int32 → Int32 → Int32 → Int32 → Int32 → Int32 → Int32 → Option xR
  | 0 => fun _ _ _ _ _ _ _ _ _ _ _ _ _ _ _ _ => none
  | n + 1 => bW_areCodes_L430  k134 (fW_areCodes_L430  k134 n)
def fW_areCodes_J426  (k134 : xSt → Int32 → Int32 → Int32 → Int32 → Int32 → Int32 → Int32 → Int32 → Int32 → Int32 → Int32 → Int32 → Int32 → Int32 → Option xR) (S : xSt) (i1 : Int32) (i2 : Int32) (i3 : Int32) (i4 : Int32) (i5 : Int32) (i9 : Int32) (i10 : Int32) (i11 : Int32) (i12 : Int32) (i13 : Int32) (i14 : Int32) (i15 : Int32) (i16 : Int32) (i17 : Int32) : Option xR :=
  fW_areCodes_L430 k134 xFU S i1 i2 i3 i4 i5 i9 i10 i11 i12 i13 i14 i15 i16 i17 (10 : Int32)
def fW_areCodes_J371  (k134 : xSt → Int32 → Int32 → Int32 → Int32 → Int32 → Int32 → Int32 → Int32 → Int32 → Int32 → Int32 → Int32 → Int32 → Int32 → Option xR) (S : xSt) (i1 : Int32) (i2 : Int32) (i3 : Int32) (i4 : Int32) (i5 : Int32) (i9 : Int32) (i10 : Int32) (i11 : Int32) (i12 : Int32) (i13 : Int32) (i14 : Int32) (i15 : Int32) (i16 : Int32) (i17 : Int32) (i18 : Int32) : Option xR :=
  if i18 < (10 : Int32) then
    fW_areCodes_J426 k134 S i1 i2 i3 i4 i5 i9 i10 i11 i12 i13 i14 i15 i16 i17
  else
    xat i17 64 fun j1 =>
    xat ((i10 + i18) - (10 : Int32)) 64 fun j2 =>
    if (S 33 2 j1) = ((S 33 2 j2) + (1 : Int32)) then
      xat ((i10 + i18) - (10 : Int32)) 64 fun j3 =>
      xat i17 64 fun j4 =>
      xbI (fW_isAlike S i9 (S 33 1 j3) (S 33 2 j4)) fun S5 r6 =>
      if r6 = 0 then
        xne ((0 : Int32) &&& 1 = (0 : Int32)) (some (S5, some (.int (0 : Int32))))
      else
        fW_areCodes_J426 k134 S5 i1 i2 i3 i4 i5 i9 i10 i11 i12 i13 i14 i15 i16 i17
    else
      xne ((0 : Int32) &&& 1 = (0 : Int32)) (some (S, some (.int (0 : Int32))))
def fW_areCodes_J348  (k134 : xSt → Int32 → Int32 → Int32 → Int32 → Int32 → Int32 → Int32 → Int32 → Int32 → Int32 → Int32 → Int32 → Int32 → Int32 → Option xR) (S : xSt) (i1 : Int32) (i2 : Int32) (i3 : Int32) (i4 : Int32) (i5 : Int32) (i9 : Int32) (i10 : Int32) (i11 : Int32) (i12 : Int32) (i13 : Int32) (i14 : Int32) (i15 : Int32) (i16 : Int32) (i17 : Int32) (i18 : Int32) (k0 : Int32) (k1 : Int32) : Option xR :=
  if k1 = k0 then
    if (8 : Int32) ≤ i18 then
      fW_areCodes_J371 k134 S i1 i2 i3 i4 i5 i9 i10 i11 i12 i13 i14 i15 i16 i17 i18
    else
      xbI (f6_sign S i9) fun S1 r2 =>
      if i18 = r2 then
        fW_areCodes_J371 k134 S1 i1 i2 i3 i4 i5 i9 i10 i11 i12 i13 i14 i15 i16 i17 i18
      else
        xne ((0 : Int32) &&& 1 = (0 : Int32)) (some (S1, some (.int (0 : Int32))))
  else
    xne ((0 : Int32) &&& 1 = (0 : Int32)) (some (S, some (.int (0 : Int32))))
def fW_areCodes_J334  (k134 : xSt → Int32 → Int32 → Int32 → Int32 → Int32 → Int32 → Int32 → Int32 → Int32 → Int32 → Int32 → Int32 → Int32 → Int32 → Option xR) (S : xSt) (i1 : Int32) (i2 : Int32) (i3 : Int32) (i4 : Int32) (i5 : Int32) (i9 : Int32) (i10 : Int32) (i11 : Int32) (i12 : Int32) (i13 : Int32) (i14 : Int32) (i15 : Int32) (i16 : Int32) (i17 : Int32) (i18 : Int32) (k0 : Int32) : Option xR :=
  xat i17 64 fun j1 =>
  if (S 33 2 j1) = (1 : Int32) then
    fW_areCodes_J348 k134 S i1 i2 i3 i4 i5 i9 i10 i11 i12 i13 i14 i15 i16 i17 i18 (1 : Int32) k0
  else
    fW_areCodes_J348 k134 S i1 i2 i3 i4 i5 i9 i10 i11 i12 i13 i14 i15 i16 i17 i18 (0 : Int32) k0
def bW_areCodes_L134   (k134 : xSt → Int32 → Int32 → Int32 → Int32 → Int32 → Int32 → Int32 → Int32 → Int32 → Int32 → Int32 → Int32 → Int32 → Int32 → Option xR) (S : xSt) (i1 : Int32) (i2 : Int32) (i3 : Int32) (i4 : Int32) (i5 : Int32) (i9 : Int32) (i10 : Int32) (i11 : Int32) (i12 : Int32) (i13 : Int32) (i14 : Int32) (i15 : Int32) (i16 : Int32) (i17 : Int32) : Option xR :=
  if i1 ≤ i17 then
    fW_areCodes_J695 S i1 i2 i9 i11 i13 i14 i15
  else
    xbI (fW_bits S i11) fun S1 r2 =>
    xbI (f6_ofCode S1 i17 (5 : Int32)) fun S3 r4 =>
    if r4 = i11 then
      xbI (f6_ofCode S3 i17 (2 : Int32)) fun S5 r6 =>
      xbI (fW_bits S5 i11) fun S7 r8 =>
      if r6 = r8 then
        if i16 = 0 then
          if i9 = i2 then
            fW_areCodes_J190 k134 S7 i1 i2 i3 i4 i5 i9 i11 i12 (i13 + r2) i14 i15 i16 i17
          else
            xat i17 64 fun j9 =>
            xat i17 64 fun j10 =>
            if (S7 33 1 j10) = i9 then
              if (S7 33 0 j9) = (8 : Int32) then
                xne ((0 : Int32) &&& 1 = (0 : Int32)) (some (S7, some (.int (0 : Int32))))
              else
                if (S7 33 0 j9) = (9 : Int32) then
                  xne ((0 : Int32) &&& 1 = (0 : Int32)) (some (S7, some (.int (0 : Int32))))
                else
                  if i11 ≤ (S7 33 0 j9) then
                    xne ((0 : Int32) &&& 1 = (0 : Int32)) (some (S7, some (.int (0 : Int32))))
                  else
                    if (8 : Int32) ≤ (S7 33 0 j9) then
                      fW_areCodes_J334 k134 S7 i1 i2 i3 i4 i5 i9 i10 i11 i12 (i13 + r2) i14 i15 i16 i17 (S7 33 0 j9) (0 : Int32)
                    else
                      fW_areCodes_J334 k134 S7 i1 i2 i3 i4 i5 i9 i10 i11 i12 (i13 + r2) i14 i15 i16 i17 (S7 33 0 j9) (1 : Int32)
            else
              xne ((0 : Int32) &&& 1 = (0 : Int32)) (some (S7, some (.int (0 : Int32))))
        else
          fW_areCodes_J190 k134 S7 i1 i2 i3 i4 i5 i9 i11 i12 (i13 + r2) i14 i15 i16 i17
      else
        xne ((0 : Int32) &&& 1 = (0 : Int32)) (some (S7, some (.int (0 : Int32))))
    else
      xne ((0 : Int32) &&& 1 = (0 : Int32)) (some (S3, some (.int (0 : Int32))))
def fW_areCodes_L134   : Nat → xSt → Int32 → Int32 → Int32 → Int32 → Int32 → Int32 → Int32 → Int32 → Int32 → Int32 → Int32 → Int32 → Int32 → Int32 → Option xR
  | 0 => fun _ _ _ _ _ _ _ _ _ _ _ _ _ _ _ => none
  | n + 1 => bW_areCodes_L134   (fW_areCodes_L134   n)
def fW_areCodes_J106   (S : xSt) (i1 : Int32) (i2 : Int32) (i3 : Int32) (i4 : Int32) (i5 : Int32) : Option xR :=
  fW_areCodes_L134 xFU S i1 i2 i3 i4 i5 (0 : Int32) (0 : Int32) (10 : Int32) (0 : Int32) (0 : Int32) (0 : Int32) (0 : Int32) (0 : Int32) (0 : Int32)
def bW_areCodes_L58   (k58 : xSt → Int32 → Int32 → Int32 → Int32 → Int32 → Int32 → Option xR) (S : xSt) (i1 : Int32) (i2 : Int32) (i3 : Int32) (i4 : Int32) (i5 : Int32) (i9 : Int32) : Option xR :=
  if i1 ≤ i9 then
    fW_areCodes_J106 S i1 i2 i3 i4 i5
  else
    xbI (f6_ofCode S i9 (0 : Int32)) fun S1 r2 =>
    xat i9 64 fun j3 =>
    xlet (xup S1 33 0 j3 r2) fun S4 =>
    xbI (f6_ofCode S4 i9 (3 : Int32)) fun S5 r6 =>
    xat i9 64 fun j7 =>
    xlet (xup S5 33 1 j7 r6) fun S8 =>
    xbI (f6_ofCode S8 i9 (4 : Int32)) fun S9 r10 =>
    xat i9 64 fun j11 =>
    xlet (xup S9 33 2 j11 r10) fun S12 =>
    k58 S12 i1 i2 i3 i4 i5 (i9 + (1 : Int32))
def fW_areCodes_L58   : Nat → xSt → Int32 → Int32 → Int32 → Int32 → Int32 → Int32 → Option xR
  | 0 => fun _ _ _ _ _ _ _ => none
  | n + 1 => bW_areCodes_L58   (fW_areCodes_L58   n)
def fW_areCodes (S : xSt) : Option xR :=
  xbI (f6_count S (1 : Int32)) fun S1 r2 =>
  xbI (f6_count S1 (0 : Int32)) fun S3 r4 =>
  xbI (f6_count S3 (9 : Int32)) fun S5 r6 =>
  xbI (f6_count S5 (10 : Int32)) fun S7 r8 =>
  xbI (f6_count S7 (11 : Int32)) fun S9 r10 =>
  xlet (xua S9 33 0 (fun _ => 0)) fun S11 =>
  xlet (xua S11 33 1 (fun _ => 0)) fun S12 =>
  xlet (xua S12 33 2 (fun _ => 0)) fun S13 =>
  fW_areCodes_L58 xFU S13 r2 r4 ((1 : Int32) <<< (r6 &&& 31)) r8 r10 (0 : Int32)
def hW_areCodes (S : xSt) : Option xR := (fW_areCodes S).map (fun r => (xrst S r.1, r.2))
def fW_areEntries_J191   (S : xSt)  : Option xR :=
  xbI (f6_count S (4 : Int32)) fun S1 r2 =>
  xbI (f6_entry S1 r2 (0 : Int32)) fun S3 r4 =>
  if r4 = (-1 : Int32) then
    xne ((1 : Int32) &&& 1 = (1 : Int32)) (some (S3, some (.int (1 : Int32))))
  else
    xne ((0 : Int32) &&& 1 = (0 : Int32)) (some (S3, some (.int (0 : Int32))))
def fW_areEntries_J185  (k42 : xSt → Int32 → Int32 → Option xR) (S : xSt) (i2 : Int32) (i3 : Int32) : Option xR :=
  k42 S i2 (i3 + (1 : Int32))
def fW_areEntries_J113   (S : xSt)  : Option xR :=
  xne ((0 : Int32) &&& 1 = (0 : Int32)) (some (S, some (.int (0 : Int32))))
def fW_areEntries_J99  (k42 : xSt → Int32 → Int32 → Option xR) (S : xSt) (i2 : Int32) (i3 : Int32) (k0 : Int32) (k1 : Int32) : Option xR :=
  if k1 = k0 then
    xbI (f6_entry S i3 (2 : Int32)) fun S1 r2 =>
    if r2 = (-6 : Int32) then
      fW_areEntries_J185 k42 S1 i2 i3
    else
      fW_areEntries_J113 S1 
  else
    xne ((0 : Int32) &&& 1 = (0 : Int32)) (some (S, some (.int (0 : Int32))))
def fW_areEntries_J78  (k42 : xSt → Int32 → Int32 → Option xR) (S : xSt) (i2 : Int32) (i3 : Int32) (k0 : Int32) (k1 : Int32) : Option xR :=
  if k1 = k0 then
    xbI (f6_entry S i3 (1 : Int32)) fun S1 r2 =>
    if (8 : Int32) ≤ i3 then
      fW_areEntries_J99 k42 S1 i2 i3 (-6 : Int32) r2
    else
      fW_areEntries_J99 k42 S1 i2 i3 i3 r2
  else
    xne ((0 : Int32) &&& 1 = (0 : Int32)) (some (S, some (.int (0 : Int32))))
def bW_areEntries_L42   (k42 : xSt → Int32 → Int32 → Option xR) (S : xSt) (i2 : Int32) (i3 : Int32) : Option xR :=
  xbI (f6_count S (4 : Int32)) fun S1 r2 =>
  if r2 ≤ i3 then
    fW_areEntries_J191 S1 
  else
    xbI (f6_entry S1 i3 (0 : Int32)) fun S3 r4 =>
    if (10 : Int32) ≤ i3 then
      xbI (f6_ofCode S3 ((i2 + i3) - (10 : Int32)) (4 : Int32)) fun S5 r6 =>
      if r4 = (r6 + (1 : Int32)) then
        xbI (f6_entry S5 i3 (2 : Int32)) fun S7 r8 =>
        xbI (f6_ofCode S7 ((i2 + i3) - (10 : Int32)) (0 : Int32)) fun S9 r10 =>
        if r8 = r10 then
          xbI (f6_entry S9 i3 (1 : Int32)) fun S11 r12 =>
          xbI (f6_ofCode S11 ((i2 + i3) - (10 : Int32)) (3 : Int32)) fun S13 r14 =>
          xbI (f6_sign S13 ((r14 + r4) - (1 : Int32))) fun S15 r16 =>
          if r12 = r16 then
            fW_areEntries_J185 k42 S15 i2 i3
          else
            xne ((0 : Int32) &&& 1 = (0 : Int32)) (some (S15, some (.int (0 : Int32))))
        else
          xne ((0 : Int32) &&& 1 = (0 : Int32)) (some (S9, some (.int (0 : Int32))))
      else
        xne ((0 : Int32) &&& 1 = (0 : Int32)) (some (S5, some (.int (0 : Int32))))
    else
      if (8 : Int32) ≤ i3 then
        fW_areEntries_J78 k42 S3 i2 i3 (0 : Int32) r4
      else
        fW_areEntries_J78 k42 S3 i2 i3 (1 : Int32) r4
def fW_areEntries_L42   : Nat → xSt → Int32 → Int32 → Option xR
  | 0 => fun _ _ _ => none
  | n + 1 => bW_areEntries_L42   (fW_areEntries_L42   n)
def fW_areEntries_J40   (S : xSt) (i2 : Int32) : Option xR :=
  fW_areEntries_L42 xFU S i2 (0 : Int32)
def fW_areEntries_J33  (k10 : xSt → Int32 → Int32 → Int32 → Option xR) (S : xSt) (i1 : Int32) (i3 : Int32) (k0 : Int32) : Option xR :=
  k10 S i1 k0 (i3 + (1 : Int32))
def bW_areEntries_L10   (k10 : xSt → Int32 → Int32 → Int32 → Option xR) (S : xSt) (i1 : Int32) (i2 : Int32) (i3 : Int32) : Option xR :=
  if i1 ≤ i3 then
    fW_areEntries_J40 S i2
  else
    xbI (f6_ofCode S i3 (0 : Int32)) fun S1 r2 =>
    if r2 = (8 : Int32) then
      fW_areEntries_J33 k10 S1 i1 i3 (i3 + (1 : Int32))
    else
      fW_areEntries_J33 k10 S1 i1 i3 i2
def fW_areEntries_L10   : Nat → xSt → Int32 → Int32 → Int32 → Option xR
  | 0 => fun _ _ _ _ => none
  | n + 1 => bW_areEntries_L10   (fW_areEntries_L10   n)
def fW_areEntries (S : xSt)   : Option xR :=
  xbI (f6_count S (1 : Int32)) fun S1 r2 =>
  fW_areEntries_L10 xFU S1 r2 (0 : Int32) (0 : Int32)
def fW_isRead_J511   (S : xSt) (i8 : Int32) (k0 : Int32) (k1 : Int32) : Option xR :=
  if k1 = k0 then
    xbI (f6_read S i8) fun S1 r2 =>
    if r2 = (-1 : Int32) then
      xbI (f6_read S1 (-1 : Int32)) fun S3 r4 =>
      if r4 = (-1 : Int32) then
        xne ((1 : Int32) &&& 1 = (1 : Int32)) (some (S3, some (.int (1 : Int32))))
      else
        xne ((0 : Int32) &&& 1 = (0 : Int32)) (some (S3, some (.int (0 : Int32))))
    else
      xne ((0 : Int32) &&& 1 = (0 : Int32)) (some (S1, some (.int (0 : Int32))))
  else
    xne ((0 : Int32) &&& 1 = (0 : Int32)) (some (S, some (.int (0 : Int32))))
def fW_isRead_J509   (S : xSt) (i8 : Int32) (i13 : Int32) (k0 : Int32) : Option xR :=
  fW_isRead_J511 S i8 i13 k0
def fW_isRead_J475   (S : xSt) (i8 : Int32) (i13 : Int32) (k0 : Int32) : Option xR :=
  if k0 = 0 then
    xne ((0 : Int32) &&& 1 = (0 : Int32)) (some (S, some (.int (0 : Int32))))
  else
    xbI (f6_reading S (5 : Int32)) fun S1 r2 =>
    if i13 = i8 then
      xbI (f6_count S1 (0 : Int32)) fun S3 r4 =>
      if i8 = r4 then
        fW_isRead_J511 S3 i8 (-6 : Int32) r2
      else
        fW_isRead_J509 S3 i8 i13 r2
    else
      fW_isRead_J509 S1 i8 i13 r2
def fW_isRead_J474   (S : xSt) (i8 : Int32) (i13 : Int32) : Option xR :=
  fW_isRead_J475 S i8 i13 (0 : Int32)
def fW_isRead_J420   (S : xSt) (i5 : Int32) (i8 : Int32) (i9 : Int32) (i10 : Int32) (i11 : Int32) (i13 : Int32) : Option xR :=
  xbI (f6_reading S (0 : Int32)) fun S1 r2 =>
  if r2 = i8 then
    xbI (f6_reading S1 (1 : Int32)) fun S3 r4 =>
    if r4 = i10 then
      xbI (f6_reading S3 (2 : Int32)) fun S5 r6 =>
      if r6 = i11 then
        xbI (f6_reading S5 (3 : Int32)) fun S7 r8 =>
        if r8 = i5 then
          xbI (f6_reading S7 (4 : Int32)) fun S9 r10 =>
          if r10 = i9 then
            fW_isRead_J475 S9 i8 i13 (1 : Int32)
          else
            fW_isRead_J474 S9 i8 i13
        else
          fW_isRead_J474 S7 i8 i13
      else
        fW_isRead_J474 S5 i8 i13
    else
      fW_isRead_J474 S3 i8 i13
  else
    fW_isRead_J474 S1 i8 i13
def bW_isRead_L382   (k382 : xSt → Int32 → Int32 → Int32 → Int32 → Int32 → Int32 → Option xR) (S : xSt) (i5 : Int32) (i8 : Int32) (i9 : Int32) (i10 : Int32) (i11 : Int32) (i13 : Int32) : Option xR :=
  if i8 ≤ i13 then
    fW_isRead_J420 S i5 i8 i9 i10 i11 i13
  else
    xbI (f6_count S (0 : Int32)) fun S1 r2 =>
    if r2 ≤ i13 then
      fW_isRead_J420 S1 i5 i8 i9 i10 i11 i13
    else
      xbI (f6_read S1 i13) fun S3 r4 =>
      xbI (f6_sign S3 i13) fun S5 r6 =>
      if r4 = r6 then
        k382 S5 i5 i8 i9 i10 i11 (i13 + (1 : Int32))
      else
        fW_isRead_J420 S5 i5 i8 i9 i10 i11 i13
def fW_isRead_L382   : Nat → xSt → Int32 → Int32 → Int32 → Int32 → Int32 → Int32 → Option xR
  | 0 => fun _ _ _ _ _ _ _ => none
  | n + 1 => bW_isRead_L382   (fW_isRead_L382   n)
def fW_isRead_J379   (S : xSt) (i5 : Int32) (i8 : Int32) (i9 : Int32) (i10 : Int32) (i11 : Int32) : Option xR :=
  fW_isRead_L382 xFU S i5 i8 i9 i10 i11 (0 : Int32)
def fW_isRead_J363   (S : xSt) (i1 : Int32) (i5 : Int32) (i8 : Int32) (i9 : Int32) (i10 : Int32) (i11 : Int32) (i12 : Int32) : Option xR :=
  if i11 = 0 then
    if i12 = 0 then
      fW_isRead_J379 S i5 i8 i9 i1 (2 : Int32)
    else
      fW_isRead_J379 S i5 i8 i9 i10 i11
  else
    fW_isRead_J379 S i5 i8 i9 i10 i11
def fW_isRead_J357  (k55 : xSt → Int32 → Int32 → Int32 → Int32 → Int32 → Int32 → Int32 → Int32 → Int32 → Int32 → Int32 → Option xR) (S : xSt) (i1 : Int32) (i2 : Int32) (i5 : Int32) (i6 : Int32) (i7 : Int32) (i8 : Int32) (i9 : Int32) (i10 : Int32) (i11 : Int32) (i12 : Int32) (i13 : Int32) : Option xR :=
  k55 S i1 i2 i5 i6 i7 i8 i9 i10 i11 i12 (i13 + (1 : Int32))
def fW_isRead_J344  (k55 : xSt → Int32 → Int32 → Int32 → Int32 → Int32 → Int32 → Int32 → Int32 → Int32 → Int32 → Int32 → Option xR) (S : xSt) (i1 : Int32) (i2 : Int32) (i6 : Int32) (i7 : Int32) (i8 : Int32) (i9 : Int32) (i10 : Int32) (i11 : Int32) (i12 : Int32) (i13 : Int32) (k0 : Int32) (k1 : Int32) : Option xR :=
  fW_isRead_J357 k55 S i1 i2 (k1 + k0) i6 i7 i8 i9 i10 i11 i12 i13
def fW_isRead_J343  (k55 : xSt → Int32 → Int32 → Int32 → Int32 → Int32 → Int32 → Int32 → Int32 → Int32 → Int32 → Int32 → Option xR) (S : xSt) (i1 : Int32) (i2 : Int32) (i6 : Int32) (i7 : Int32) (i8 : Int32) (i9 : Int32) (i10 : Int32) (i11 : Int32) (i12 : Int32) (i13 : Int32) (k0 : Int32) : Option xR :=
  fW_isRead_J344 k55 S i1 i2 i6 i7 i8 i9 i10 i11 i12 i13 (0 : Int32) k0
def fW_isRead_J323  (k55 : xSt → Int32 → Int32 → Int32 → Int32 → Int32 → Int32 → Int32 → Int32 → Int32 → Int32 → Int32 → Option xR) (S : xSt) (i1 : Int32) (i2 : Int32) (i5 : Int32) (i6 : Int32) (i7 : Int32) (i8 : Int32) (i10 : Int32) (i11 : Int32) (i12 : Int32) (i13 : Int32) (i15 : Int32) (k0 : Int32) (k1 : Int32) : Option xR :=
  if i15 = 0 then
    fW_isRead_J343 k55 S i1 i2 i6 i7 i8 (k1 + k0) i10 i11 i12 i13 i5
  else
    if i2 ≤ i5 then
      fW_isRead_J343 k55 S i1 i2 i6 i7 i8 (k1 + k0) i10 i11 i12 i13 i5
    else
      fW_isRead_J344 k55 S i1 i2 i6 i7 i8 (k1 + k0) i10 i11 i12 i13 (1 : Int32) i5
def fW_isRead_J288  (k55 : xSt → Int32 → Int32 → Int32 → Int32 → Int32 → Int32 → Int32 → Int32 → Int32 → Int32 → Int32 → Option xR) (S : xSt) (i1 : Int32) (i2 : Int32) (i5 : Int32) (i6 : Int32) (i7 : Int32) (i8 : Int32) (i9 : Int32) (i10 : Int32) (i11 : Int32) (i12 : Int32) (i13 : Int32) (i15 : Int32) (i16 : Int32) (i18 : Int32) : Option xR :=
  xat i7 64 fun j1 =>
  xlet (xup S 33 0 j1 i8) fun S2 =>
  xat i7 64 fun j3 =>
  xlet (xup S2 33 1 j3 i18) fun S4 =>
  if i16 = 0 then
    fW_isRead_J323 k55 S4 i1 i2 i5 i6 (i7 + (1 : Int32)) (i8 + i18) i10 i11 i12 i13 i15 (0 : Int32) i9
  else
    fW_isRead_J323 k55 S4 i1 i2 i5 i6 (i7 + (1 : Int32)) (i8 + i18) i10 i11 i12 i13 i15 (1 : Int32) i9
def bW_isRead_L252  (k55 : xSt → Int32 → Int32 → Int32 → Int32 → Int32 → Int32 → Int32 → Int32 → Int32 → Int32 → Int32 → Option xR) (k252 : xSt → Int32 → Int32 → Int32 → Int32 → Int32 → Int32 → Int32 → Int32 → Int32 → Int32 → Int32 → Int32 → Int32 → Int32 → Int32 → Int32 → Option xR) (S : xSt) (i1 : Int32) (i2 : Int32) (i5 : Int32) (i6 : Int32) (i7 : Int32) (i8 : Int32) (i9 : Int32) (i10 : Int32) (i11 : Int32) (i12 : Int32) (i13 : Int32) (i15 : Int32) (i16 : Int32) (i17 : Int32) (i18 : Int32) (i19 : Int32) : Option xR :=
  if i18 ≤ i19 then
    fW_isRead_J288 k55 S i1 i2 i5 i6 i7 i8 i9 i10 i11 i12 i13 i15 i16 i18
  else
    xbI (f6_read S (i8 + i19)) fun S1 r2 =>
    xbI (f6_read S1 (i17 + i19)) fun S3 r4 =>
    if r2 = r4 then
      k252 S3 i1 i2 i5 i6 i7 i8 i9 i10 i11 i12 i13 i15 i16 i17 i18 (i19 + (1 : Int32))
    else
      xne ((0 : Int32) &&& 1 = (0 : Int32)) (some (S3, some (.int (0 : Int32))))
def fW_isRead_L252  (k55 : xSt → Int32 → Int32 → Int32 → Int32 → Int32 → Int32 → Int32 → Int32 → Int32 → Int32 → Int32 → Option xR) : Nat → xSt → Int32 → Int32 → Int32 → Int32 → Int32 → Int32 → Int32 → Int32 → Int32 → Int32 → Int32 → Int32 → Int32 → Int32 → Int32 → Int32 → Option xR
  | 0 => fun _ _ _ _ _ _ _ _ _ _ _ _ _ _ _ _ _ => none
  | n + 1 => bW_isRead_L252  k55 (fW_isRead_L252  k55 n)
def fW_isRead_J249  (k55 : xSt → Int32 → Int32 → Int32 → Int32 → Int32 → Int32 → Int32 → Int32 → Int32 → Int32 → Int32 → Option xR) (S : xSt) (i1 : Int32) (i2 : Int32) (i5 : Int32) (i6 : Int32) (i7 : Int32) (i8 : Int32) (i9 : Int32) (i10 : Int32) (i11 : Int32) (i12 : Int32) (i13 : Int32) (i15 : Int32) (i16 : Int32) (i17 : Int32) (i18 : Int32) : Option xR :=
  fW_isRead_L252 k55 xFU S i1 i2 i5 i6 i7 i8 i9 i10 i11 i12 i13 i15 i16 i17 i18 (0 : Int32)
def fW_isRead_J227  (k55 : xSt → Int32 → Int32 → Int32 → Int32 → Int32 → Int32 → Int32 → Int32 → Int32 → Int32 → Int32 → Option xR) (S : xSt) (i1 : Int32) (i2 : Int32) (i5 : Int32) (i6 : Int32) (i7 : Int32) (i8 : Int32) (i9 : Int32) (i10 : Int32) (i11 : Int32) (i12 : Int32) (i13 : Int32) (i14 : Int32) (i15 : Int32) (i16 : Int32) (i17 : Int32) (k0 : Int32) : Option xR :=
  if (8 : Int32) ≤ i14 then
    fW_isRead_J249 k55 S i1 i2 i5 i6 i7 i8 i9 i10 i11 i12 i13 i15 i16 i17 k0
  else
    xbI (f6_read S i8) fun S1 r2 =>
    if r2 = i14 then
      fW_isRead_J249 k55 S1 i1 i2 i5 i6 i7 i8 i9 i10 i11 i12 i13 i15 i16 i17 k0
    else
      xne ((0 : Int32) &&& 1 = (0 : Int32)) (some (S1, some (.int (0 : Int32))))
def fW_isRead_J201  (k55 : xSt → Int32 → Int32 → Int32 → Int32 → Int32 → Int32 → Int32 → Int32 → Int32 → Int32 → Int32 → Option xR) (S : xSt) (i1 : Int32) (i2 : Int32) (i5 : Int32) (i6 : Int32) (i7 : Int32) (i8 : Int32) (i9 : Int32) (i10 : Int32) (i11 : Int32) (i12 : Int32) (i13 : Int32) (i14 : Int32) (i15 : Int32) (i16 : Int32) (k0 : Int32) : Option xR :=
  if (8 : Int32) ≤ i14 then
    xat ((i6 + i14) - (10 : Int32)) 64 fun j1 =>
    fW_isRead_J227 k55 S i1 i2 i5 i6 i7 i8 i9 i10 i11 i12 i13 i14 i15 i16 k0 ((S 33 1 j1) + (1 : Int32))
  else
    fW_isRead_J227 k55 S i1 i2 i5 i6 i7 i8 i9 i10 i11 i12 i13 i14 i15 i16 k0 (1 : Int32)
def fW_isRead_J179  (k55 : xSt → Int32 → Int32 → Int32 → Int32 → Int32 → Int32 → Int32 → Int32 → Int32 → Int32 → Int32 → Option xR) (S : xSt) (i1 : Int32) (i2 : Int32) (i5 : Int32) (i6 : Int32) (i7 : Int32) (i8 : Int32) (i9 : Int32) (i10 : Int32) (i11 : Int32) (i12 : Int32) (i13 : Int32) (i14 : Int32) (i15 : Int32) (i16 : Int32) : Option xR :=
  if (8 : Int32) ≤ i14 then
    xat ((i6 + i14) - (10 : Int32)) 64 fun j1 =>
    fW_isRead_J201 k55 S i1 i2 i5 i6 i7 i8 i9 i10 i11 i12 i13 i14 i15 i16 (S 33 0 j1)
  else
    fW_isRead_J201 k55 S i1 i2 i5 i6 i7 i8 i9 i10 i11 i12 i13 i14 i15 i16 i8
def fW_isRead_J112  (k55 : xSt → Int32 → Int32 → Int32 → Int32 → Int32 → Int32 → Int32 → Int32 → Int32 → Int32 → Int32 → Option xR) (S : xSt) (i1 : Int32) (i2 : Int32) (i5 : Int32) (i6 : Int32) (i7 : Int32) (i8 : Int32) (i9 : Int32) (i10 : Int32) (i11 : Int32) (i12 : Int32) (i13 : Int32) (i14 : Int32) (i15 : Int32) (k0 : Int32) : Option xR :=
  if i12 = 0 then
    if i14 = (9 : Int32) then
      fW_isRead_J357 k55 S i1 i2 i5 i6 i7 i8 i9 i10 i11 (1 : Int32) i13
    else
      if i14 = (8 : Int32) then
        fW_isRead_J357 k55 S i1 i2 (10 : Int32) i7 i7 i8 i9 i10 i11 i12 i13
      else
        if i14 < (8 : Int32) then
          fW_isRead_J179 k55 S i1 i2 i5 i6 i7 i8 i9 i10 i11 i12 i13 i14 i15 k0
        else
          if i14 < i5 then
            fW_isRead_J179 k55 S i1 i2 i5 i6 i7 i8 i9 i10 i11 i12 i13 i14 i15 k0
          else
            if k0 = 0 then
              fW_isRead_J357 k55 S i1 i2 i5 i6 i7 i8 i9 i13 (1 : Int32) i12 i13
            else
              fW_isRead_J179 k55 S i1 i2 i5 i6 i7 i8 i9 i10 i11 i12 i13 i14 i15 k0
  else
    fW_isRead_J357 k55 S i1 i2 i5 i6 i7 i8 i9 i13 (3 : Int32) i12 i13
def fW_isRead_J111  (k55 : xSt → Int32 → Int32 → Int32 → Int32 → Int32 → Int32 → Int32 → Int32 → Int32 → Int32 → Int32 → Option xR) (S : xSt) (i1 : Int32) (i2 : Int32) (i5 : Int32) (i6 : Int32) (i7 : Int32) (i8 : Int32) (i9 : Int32) (i10 : Int32) (i11 : Int32) (i12 : Int32) (i13 : Int32) (i14 : Int32) (i15 : Int32) : Option xR :=
  fW_isRead_J112 k55 S i1 i2 i5 i6 i7 i8 i9 i10 i11 i12 i13 i14 i15 (0 : Int32)
def fW_isRead_J87  (k55 : xSt → Int32 → Int32 → Int32 → Int32 → Int32 → Int32 → Int32 → Int32 → Int32 → Int32 → Int32 → Option xR) (S : xSt) (i1 : Int32) (i2 : Int32) (i5 : Int32) (i6 : Int32) (i7 : Int32) (i8 : Int32) (i9 : Int32) (i10 : Int32) (i11 : Int32) (i12 : Int32) (i13 : Int32) (i14 : Int32) (k0 : Int32) : Option xR :=
  if i14 = i5 then
    if k0 = 0 then
      fW_isRead_J111 k55 S i1 i2 i5 i6 i7 i8 i9 i10 i11 i12 i13 i14 k0
    else
      if i2 ≤ i5 then
        fW_isRead_J111 k55 S i1 i2 i5 i6 i7 i8 i9 i10 i11 i12 i13 i14 k0
      else
        fW_isRead_J112 k55 S i1 i2 i5 i6 i7 i8 i9 i10 i11 i12 i13 i14 k0 (1 : Int32)
  else
    fW_isRead_J111 k55 S i1 i2 i5 i6 i7 i8 i9 i10 i11 i12 i13 i14 k0
def bW_isRead_L55   (k55 : xSt → Int32 → Int32 → Int32 → Int32 → Int32 → Int32 → Int32 → Int32 → Int32 → Int32 → Int32 → Option xR) (S : xSt) (i1 : Int32) (i2 : Int32) (i5 : Int32) (i6 : Int32) (i7 : Int32) (i8 : Int32) (i9 : Int32) (i10 : Int32) (i11 : Int32) (i12 : Int32) (i13 : Int32) : Option xR :=
  if i1 ≤ i13 then
    fW_isRead_J363 S i1 i5 i8 i9 i10 i11 i12
  else
    if i11 = 0 then
      xbI (f6_ofCode S i13 (1 : Int32)) fun S1 r2 =>
      if i7 ≤ i6 then
        fW_isRead_J87 k55 S1 i1 i2 i5 i6 i7 i8 i9 i10 i11 i12 i13 r2 (0 : Int32)
      else
        fW_isRead_J87 k55 S1 i1 i2 i5 i6 i7 i8 i9 i10 i11 i12 i13 r2 (1 : Int32)
    else
      fW_isRead_J363 S i1 i5 i8 i9 i10 i11 i12
def fW_isRead_L55   : Nat → xSt → Int32 → Int32 → Int32 → Int32 → Int32 → Int32 → Int32 → Int32 → Int32 → Int32 → Int32 → Option xR
  | 0 => fun _ _ _ _ _ _ _ _ _ _ _ _ => none
  | n + 1 => bW_isRead_L55   (fW_isRead_L55   n)
def fW_isRead (S : xSt) : Option xR :=
  xbI (f6_count S (1 : Int32)) fun S1 r2 =>
  xbI (f6_count S1 (9 : Int32)) fun S3 r4 =>
  xlet (xua S3 33 0 (fun _ => 0)) fun S5 =>
  xlet (xua S5 33 1 (fun _ => 0)) fun S6 =>
  fW_isRead_L55 xFU S6 r2 ((1 : Int32) <<< (r4 &&& 31)) (10 : Int32) (0 : Int32) (0 : Int32) (0 : Int32) (0 : Int32) (-6 : Int32) (0 : Int32) (0 : Int32) (0 : Int32)
def hW_isRead (S : xSt) : Option xR := (fW_isRead S).map (fun r => (xrst S r.1, r.2))
def fW_agree_J95   (S : xSt)  : Option xR :=
  xne ((1 : Int32) &&& 1 = (1 : Int32)) (some (S, some (.int (1 : Int32))))
def fW_agree_J42   (S : xSt) (i1 : Int32) : Option xR :=
  xbI (f6_count S (6 : Int32)) fun S1 r2 =>
  if r2 = i1 then
    xbI (hW_areCodes S1) fun S3 r4 =>
    if r4 = 0 then
      xne ((0 : Int32) &&& 1 = (0 : Int32)) (some (S3, some (.int (0 : Int32))))
    else
      xbI (fW_areEntries S3) fun S5 r6 =>
      if r6 = 0 then
        xne ((0 : Int32) &&& 1 = (0 : Int32)) (some (S5, some (.int (0 : Int32))))
      else
        xbI (hW_isRead S5) fun S7 r8 =>
        if r8 = 0 then
          xne ((0 : Int32) &&& 1 = (0 : Int32)) (some (S7, some (.int (0 : Int32))))
        else
          if 0 < i1 then
            fW_agree_J95 S7 
          else
            xbI (f6_reading S7 (5 : Int32)) fun S9 r10 =>
            if r10 = (-6 : Int32) then
              xbI (f6_reading S9 (2 : Int32)) fun S11 r12 =>
              if r12 = 0 then
                fW_agree_J95 S11 
              else
                xne ((0 : Int32) &&& 1 = (0 : Int32)) (some (S11, some (.int (0 : Int32))))
            else
              xne ((0 : Int32) &&& 1 = (0 : Int32)) (some (S9, some (.int (0 : Int32))))
  else
    xne ((0 : Int32) &&& 1 = (0 : Int32)) (some (S1, some (.int (0 : Int32))))
def fW_agree_J34  (k4 : xSt → Int32 → Int32 → Option xR) (S : xSt) (i2 : Int32) (k0 : Int32) (k1 : Int32) : Option xR :=
  k4 S (k1 + k0) (i2 + (1 : Int32))
def bW_agree_L4   (k4 : xSt → Int32 → Int32 → Option xR) (S : xSt) (i1 : Int32) (i2 : Int32) : Option xR :=
  xbI (f6_count S (1 : Int32)) fun S1 r2 =>
  if r2 ≤ i2 then
    fW_agree_J42 S1 i1
  else
    xbI (f6_ofCode S1 i2 (0 : Int32)) fun S3 r4 =>
    xbI (f6_ofCode S3 i2 (1 : Int32)) fun S5 r6 =>
    if r4 = r6 then
      fW_agree_J34 k4 S5 i2 (0 : Int32) i1
    else
      fW_agree_J34 k4 S5 i2 (1 : Int32) i1
def fW_agree_L4   : Nat → xSt → Int32 → Int32 → Option xR
  | 0 => fun _ _ _ => none
  | n + 1 => bW_agree_L4   (fW_agree_L4   n)
def fW_agree (S : xSt) : Option xR :=
  fW_agree_L4 xFU S (0 : Int32) (0 : Int32)
def fW_isSpoiled_J19   (S : xSt) (i1 : Int32) (i2 : Int32) (k0 : Int32) : Option xR :=
  xbI (f6_spoil S i1 i2) fun S1 r2 =>
  if 0 ≤ k0 then
    if r2 = (k0 ^^^ i2) then
      xbI (f6_ofCode S1 i1 (1 : Int32)) fun S3 r4 =>
      if r4 = r2 then
        xne ((1 : Int32) &&& 1 = (1 : Int32)) (some (S3, some (.int (1 : Int32))))
      else
        xne ((0 : Int32) &&& 1 = (0 : Int32)) (some (S3, some (.int (0 : Int32))))
    else
      xne ((0 : Int32) &&& 1 = (0 : Int32)) (some (S1, some (.int (0 : Int32))))
  else
    if r2 = (-1 : Int32) then
      xne ((1 : Int32) &&& 1 = (1 : Int32)) (some (S1, some (.int (1 : Int32))))
    else
      xne ((0 : Int32) &&& 1 = (0 : Int32)) (some (S1, some (.int (0 : Int32))))
def fW_isSpoiled (S : xSt)  (a1 : Int32) (a2 : Int32) : Option xR :=
  xbI (f6_count S (1 : Int32)) fun S1 r2 =>
  if r2 ≤ a1 then
    fW_isSpoiled_J19 S1 a1 a2 (-1 : Int32)
  else
    xbI (f6_ofCode S1 a1 (1 : Int32)) fun S3 r4 =>
    fW_isSpoiled_J19 S3 a1 a2 r4
def fW_isAct_J344  (L : Nat) (xs : Nat → Int32)  (S : xSt) (k0 : Int32) (k1 : Int32) : Option xR :=
  xbI (fW_isSpoiled S k1 k0) fun S1 r2 =>
  xne (r2 &&& 1 = r2) (some (S1, some (.int r2)))
def fW_isAct_J134  (L : Nat) (xs : Nat → Int32)  (S : xSt)  : Option xR :=
  xne ((1 : Int32) &&& 1 = (1 : Int32)) (some (S, some (.int (1 : Int32))))
def fW_isAct_J69  (L : Nat) (xs : Nat → Int32)  (S : xSt) (i2 : Int32) (i3 : Int32) (k0 : Int32) (k1 : Int32) : Option xR :=
  xbI (fW_cell S L xs k1 k0) fun S1 r2 =>
  xbI (fW_cell S1 L xs (i2 + (3 : Int32)) (3 : Int32)) fun S3 r4 =>
  if (34 : Int32) < (i3 + ((1 : Int32) + r4)) then
    fW_isAct_J134 L xs S3 
  else
    xbI (f6_add S3 r2 ((1 : Int32) + r4)) fun S5 r6 =>
    if r6 = (i3 + ((1 : Int32) + r4)) then
      xbI (f6_sign S5 ((i3 + ((1 : Int32) + r4)) - (1 : Int32))) fun S7 r8 =>
      if r8 = r2 then
        xbI (f6_count S7 (6 : Int32)) fun S9 r10 =>
        if r10 = 0 then
          fW_isAct_J134 L xs S9 
        else
          xne ((0 : Int32) &&& 1 = (0 : Int32)) (some (S9, some (.int (0 : Int32))))
      else
        xne ((0 : Int32) &&& 1 = (0 : Int32)) (some (S7, some (.int (0 : Int32))))
    else
      xne ((0 : Int32) &&& 1 = (0 : Int32)) (some (S5, some (.int (0 : Int32))))
def fW_isAct_J174  (L : Nat) (xs : Nat → Int32)  (S : xSt) (k0 : Int32) (k1 : Int32) : Option xR :=
  if k1 = k0 then
    xne ((1 : Int32) &&& 1 = (1 : Int32)) (some (S, some (.int (1 : Int32))))
  else
    xne ((0 : Int32) &&& 1 = (0 : Int32)) (some (S, some (.int (0 : Int32))))
def fW_isAct_J238  (L : Nat) (xs : Nat → Int32)  (S : xSt) (i7 : Int32) (k0 : Int32) : Option xR :=
  xbI (f6_count S ((9 : Int32) + i7)) fun S1 r2 =>
  xbI (f6_set S1 i7 k0) fun S3 r4 =>
  if r4 = r2 then
    xbI (f6_count S3 ((9 : Int32) + i7)) fun S5 r6 =>
    if r6 = k0 then
      xbI (f6_count S5 (6 : Int32)) fun S7 r8 =>
      if r8 = 0 then
        xne ((1 : Int32) &&& 1 = (1 : Int32)) (some (S7, some (.int (1 : Int32))))
      else
        xne ((0 : Int32) &&& 1 = (0 : Int32)) (some (S7, some (.int (0 : Int32))))
    else
      xne ((0 : Int32) &&& 1 = (0 : Int32)) (some (S5, some (.int (0 : Int32))))
  else
    xne ((0 : Int32) &&& 1 = (0 : Int32)) (some (S3, some (.int (0 : Int32))))
def fW_isAct (S : xSt)  (L : Nat) (xs : Nat → Int32) (a2 : Int32) : Option xR :=
  xbI (f6_count S (0 : Int32)) fun S1 r2 =>
  xbI (fW_cell S1 L xs a2 (10 : Int32)) fun S3 r4 =>
  if r4.toInt < 0 ∨ 4 < r4.toInt then
    xbI (f6_count S3 (1 : Int32)) fun S5 r6 =>
    xbI (fW_cell S5 L xs (a2 + (1 : Int32)) (r6 + (1 : Int32))) fun S7 r8 =>
    xbI (fW_cell S7 L xs (a2 + (2 : Int32)) (3 : Int32)) fun S9 r10 =>
    if r10 = 0 then
      xbI (fW_cell S9 L xs (a2 + (3 : Int32)) (511 : Int32)) fun S13 r14 =>
      fW_isAct_J344 L xs S13 ((1 : Int32) + r14) r8
    else
      xbI (fW_cell S9 L xs (a2 + (3 : Int32)) (5 : Int32)) fun S11 r12 =>
      fW_isAct_J344 L xs S11 ((1 : Int32) <<< (r12 &&& 31)) r8
  else match (r4.toInt - 0).toNat with
  | 0 =>
    xbI (fW_cell S3 L xs (a2 + (2 : Int32)) (3 : Int32)) fun S15 r16 =>
    if r16 = 0 then
      fW_isAct_J69 L xs S15 a2 r2 (8 : Int32) (a2 + (1 : Int32))
    else
      fW_isAct_J69 L xs S15 a2 r2 (2 : Int32) (a2 + (1 : Int32))
  | 1 =>
    xbI (fW_cell S3 L xs (a2 + (2 : Int32)) (3 : Int32)) fun S17 r18 =>
    if r18 = 0 then
      fW_isAct_J69 L xs S17 a2 r2 (8 : Int32) (a2 + (1 : Int32))
    else
      fW_isAct_J69 L xs S17 a2 r2 (2 : Int32) (a2 + (1 : Int32))
  | 2 =>
    xbI (fW_cell S3 L xs (a2 + (2 : Int32)) (3 : Int32)) fun S19 r20 =>
    if r20 = 0 then
      fW_isAct_J69 L xs S19 a2 r2 (8 : Int32) (a2 + (1 : Int32))
    else
      fW_isAct_J69 L xs S19 a2 r2 (2 : Int32) (a2 + (1 : Int32))
  | 3 =>
    xbI (fW_cell S3 L xs (a2 + (1 : Int32)) (12 : Int32)) fun S21 r22 =>
    xbI (f6_cut S21 ((1 : Int32) + r22)) fun S23 r24 =>
    if ((1 : Int32) + r22) ≤ r2 then
      fW_isAct_J174 L xs S23 (r2 - ((1 : Int32) + r22)) r24
    else
      fW_isAct_J174 L xs S23 (-5 : Int32) r24
  | 4 =>
    xbI (fW_cell S3 L xs (a2 + (1 : Int32)) (3 : Int32)) fun S25 r26 =>
    if r26 = 0 then
      xbI (fW_cell S25 L xs (a2 + (2 : Int32)) (3 : Int32)) fun S31 r32 =>
      fW_isAct_J238 L xs S31 r26 ((4 : Int32) + r32)
    else
      if r26 = (1 : Int32) then
        xbI (fW_cell S25 L xs (a2 + (2 : Int32)) (3 : Int32)) fun S29 r30 =>
        fW_isAct_J238 L xs S29 r26 r30
      else
        xbI (fW_cell S25 L xs (a2 + (2 : Int32)) (3 : Int32)) fun S27 r28 =>
        fW_isAct_J238 L xs S27 r26 ((4 : Int32) + r28)
  | _ => none
