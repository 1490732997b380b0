def f6_isSetting (S : xSt)  (a0 : Int32) (a1 : Int32) : Option xR :=
  if a0 < 0 then
    xne ((0 : Int32) &&& 1 = (0 : Int32)) (some (S, some (.int (0 : Int32))))
  else
    if (2 : Int32) < a0 then
      xne ((0 : Int32) &&& 1 = (0 : Int32)) (some (S, some (.int (0 : Int32))))
    else
      xat a0 3 fun j1 =>
      if a1 < (xSf 0 j1) then
        xne ((0 : Int32) &&& 1 = (0 : Int32)) (some (S, some (.int (0 : Int32))))
      else
        xat a0 3 fun j2 =>
        if (xSf 1 j2) < a1 then
          xne ((0 : Int32) &&& 1 = (0 : Int32)) (some (S, some (.int (0 : Int32))))
        else
          xne ((1 : Int32) &&& 1 = (1 : Int32)) (some (S, some (.int (1 : Int32))))
def f6_copyState (S : xSt) (o1 : Nat) (o2 : Nat)  : Option xR :=
  xne (xcpok (0 : Int32) (0 : Int32) (3 : Int32) 3 3) <|
  xlet (xua S 22 o2 (va_cpy (S 22 o1) (S 22 o2) ((0 : Int32)).toNatClampNeg ((0 : Int32)).toNatClampNeg ((3 : Int32)).toNatClampNeg)) fun S1 =>
  xne (xcpok (0 : Int32) (0 : Int32) (240 : Int32) 240 240) <|
  xlet (xua S1 23 o2 (va_cpy (S1 23 o1) (S1 23 o2) ((0 : Int32)).toNatClampNeg ((0 : Int32)).toNatClampNeg ((240 : Int32)).toNatClampNeg)) fun S2 =>
  xne (xcpok (0 : Int32) (0 : Int32) (281 : Int32) 281 281) <|
  xlet (xua S2 24 o2 (va_cpy (S2 24 o1) (S2 24 o2) ((0 : Int32)).toNatClampNeg ((0 : Int32)).toNatClampNeg ((281 : Int32)).toNatClampNeg)) fun S3 =>
  xlet (xup S3 4 o2 3 (S3 4 o1 3)) fun S4 =>
  some (S4, none)
def f1_record_J19 (o1 : Nat)  (S : xSt) (k0 : Int32) : Option xR :=
  xlet (xup S 1 0 1 k0) fun S1 =>
  xlet (xup S1 1 0 2 (if (6 : Int32) < ((S1 1 0 2) + (1 : Int32)) then (6 : Int32) else ((S1 1 0 2) + (1 : Int32)))) fun S2 =>
  xat (S2 1 0 1) 6 fun j3 =>
  xbV (f6_copyState S2 o1 (1 + j3)) fun S4 =>
  some (S4, none)
def f1_record (S : xSt) (o1 : Nat)  : Option xR :=
  if (S 1 0 1) < (5 : Int32) then
    f1_record_J19 o1 S ((S 1 0 1) + (1 : Int32))
  else
    f1_record_J19 o1 S (0 : Int32)
def f4_mendCodes (S : xSt) (o : Nat)  : Option xR :=
  xbV (ffill2 S 24 o 281 (0 : Int32)) fun S1 =>
  some (S1, none)
def f0_dropPhrases (S : xSt) (o : Nat)  : Option xR :=
  xlet (xup S 0 o 4 (10 : Int32)) fun S1 =>
  xbV (ffill4 S1 13 o 4096 (0 : Int32) (80 : Int32) (0 : Int32)) fun S2 =>
  some (S2, none)
def f5_begin (S : xSt) (o : Nat) (a1 : Int32) : Option xR :=
  xbV (f0_dropPhrases S o) fun S1 =>
  xlet (xup S1 5 o 10 ((1 : Int32) <<< (a1 &&& 31))) fun S2 =>
  xlet (xup S2 5 o 6 (0 : Int32)) fun S3 =>
  xlet (xup S3 5 o 7 (0 : Int32)) fun S4 =>
  xlet (xup S4 5 o 8 (0 : Int32)) fun S5 =>
  xlet (xup S5 5 o 9 (0 : Int32)) fun S6 =>
  some (S6, none)
def b5_bitsOf_L6   (k6 : xSt → Int32 → Int32 → Option xR) (S : xSt) (i0 : Int32) (i1 : Int32) : Option xR :=
  xat (0 : Int32) 3 fun j1 =>
  if (xSf 1 j1) ≤ i1 then
    some (S, some (.int i1))
  else
    if (i0 >>> (i1 &&& 31)) = 0 then
      some (S, some (.int i1))
    else
      k6 S i0 (i1 + (1 : Int32))
def f5_bitsOf_L6   : Nat → xSt → Int32 → Int32 → Option xR
  | 0 => fun _ _ _ => none
  | n + 1 => b5_bitsOf_L6   (f5_bitsOf_L6   n)
def f5_bitsOf (S : xSt)  (a0 : Int32) : Option xR :=
  xat (0 : Int32) 3 fun j1 =>
  f5_bitsOf_L6 xFU S a0 (xSf 0 j1)
def f5_writeCode (S : xSt) (o : Nat) (a1 : Int32) (a2 : Int32) (a3 : Int32) : Option xR :=
  if (S 5 o 6) < (281 : Int32) then
    xbI (f5_bitsOf S ((S 0 o 4) - (1 : Int32))) fun S1 r2 =>
    xat (S1 5 o 6) 281 fun j3 =>
    xlet (xup S1 25 o j3 a1) fun S4 =>
    xat (S4 5 o 6) 281 fun j5 =>
    xlet (xup S4 26 o j5 r2) fun S6 =>
    xat (S6 5 o 6) 281 fun j7 =>
    xlet (xup S6 27 o j7 a2) fun S8 =>
    xat (S8 5 o 6) 281 fun j9 =>
    xlet (xup S8 28 o j9 a3) fun S10 =>
    xat (S10 5 o 6) 281 fun j11 =>
    xlet (xup S10 29 o j11 (S10 0 o 4)) fun S12 =>
    xlet (xup S12 5 o 7 ((S12 5 o 7) + r2)) fun S13 =>
    xlet (xup S13 5 o 6 ((S13 5 o 6) + (1 : Int32))) fun S14 =>
    some (S14, none)
  else
    some (S, none)
def b0_longestAt_L10 (o : Nat) (o1 : Nat)  (k10 : xSt → Int32 → Int32 → Int32 → Option xR) (S : xSt) (i3 : Int32) (i4 : Int32) (i5 : Int32) : Option xR :=
  if i3 ≤ i5 then
    some (S, some (.int i4))
  else
    xat i5 240 fun j1 =>
    xat ((i4 * (8 : Int32)) + (S 23 o1 j1)) 4096 fun j2 =>
    if (S 13 o j2) = 0 then
      some (S, some (.int i4))
    else
      k10 S i3 (S 13 o j2) (i5 + (1 : Int32))
def f0_longestAt_L10 (o : Nat) (o1 : Nat)  : Nat → xSt → Int32 → Int32 → Int32 → Option xR
  | 0 => fun _ _ _ _ => none
  | n + 1 => b0_longestAt_L10 o o1  (f0_longestAt_L10 o o1  n)
def f0_longestAt (S : xSt) (o : Nat) (o1 : Nat) (a2 : Int32) (a3 : Int32) : Option xR :=
  xat a2 240 fun j1 =>
  f0_longestAt_L10 o o1 xFU S a3 (S 23 o1 j1) (a2 + (1 : Int32))
def f0_addPhrase (S : xSt) (o : Nat) (a1 : Int32) (a2 : Int32) : Option xR :=
  if (S 0 o 4) < (512 : Int32) then
    xat (S 0 o 4) 512 fun j1 =>
    xlet (xup S 10 o j1 a1) fun S2 =>
    xat (S2 0 o 4) 512 fun j3 =>
    xlet (xup S2 11 o j3 a2) fun S4 =>
    xat a1 512 fun j5 =>
    xat (S4 0 o 4) 512 fun j6 =>
    xlet (xup S4 12 o j6 ((S4 12 o j5) + (1 : Int32))) fun S7 =>
    xat ((a1 * (8 : Int32)) + a2) 4096 fun j8 =>
    xlet (xup S7 13 o j8 (S7 0 o 4)) fun S9 =>
    xbV (ffill4 S9 13 o 4096 ((S9 0 o 4) * (8 : Int32)) (((S9 0 o 4) + (1 : Int32)) * (8 : Int32)) (0 : Int32)) fun S10 =>
    xlet (xup S10 0 o 4 ((S10 0 o 4) + (1 : Int32))) fun S11 =>
    some (S11, none)
  else
    some (S, none)
def f5_grow (S : xSt) (o : Nat) (a1 : Int32) (a2 : Int32) : Option xR :=
  if (S 0 o 4) < (S 5 o 10) then
    xbV (f0_addPhrase S o a1 a2) fun S1 =>
    xat a1 512 fun j2 =>
    xlet (xup S1 5 o 9 (if (S1 5 o 9) < ((S1 12 o j2) + (1 : Int32)) then ((S1 12 o j2) + (1 : Int32)) else (S1 5 o 9))) fun S3 =>
    xlet (xup S3 5 o 11 (S3 5 o 6)) fun S4 =>
    some (S4, none)
  else
    some (S, none)
def b5_signsOf_L5 (o : Nat)  (k5 : xSt → Int32 → Int32 → Int32 → Option xR) (S : xSt) (i2 : Int32) (i3 : Int32) (i4 : Int32) : Option xR :=
  if i2 ≤ i4 then
    some (S, some (.int i3))
  else
    xat i4 281 fun j1 =>
    k5 S i2 (i3 + (S 28 o j1)) (i4 + (1 : Int32))
def f5_signsOf_L5 (o : Nat)  : Nat → xSt → Int32 → Int32 → Int32 → Option xR
  | 0 => fun _ _ _ _ => none
  | n + 1 => b5_signsOf_L5 o  (f5_signsOf_L5 o  n)
def f5_signsOf (S : xSt) (o : Nat) (a1 : Int32) (a2 : Int32) : Option xR :=
  f5_signsOf_L5 o xFU S a2 (0 : Int32) a1
def f5_losesBy (S : xSt) (o : Nat) (a1 : Int32) : Option xR :=
  if ((2 : Int32) * a1) ≤ ((S 5 o 6) - (S 5 o 11)) then
    xbI (f5_signsOf S o ((S 5 o 6) - a1) (S 5 o 6)) fun S1 r2 =>
    xbI (f5_signsOf S1 o ((S1 5 o 6) - ((2 : Int32) * a1)) ((S1 5 o 6) - a1)) fun S3 r4 =>
    if r4 ≤ r2 then
      xne ((0 : Int32) &&& 1 = (0 : Int32)) (some (S3, some (.int (0 : Int32))))
    else
      xne ((1 : Int32) &&& 1 = (1 : Int32)) (some (S3, some (.int (1 : Int32))))
  else
    xne ((0 : Int32) &&& 1 = (0 : Int32)) (some (S, some (.int (0 : Int32))))
def f5_mustClear_J33 (o : Nat)  (S : xSt)  : Option xR :=
  xne ((1 : Int32) &&& 1 = (1 : Int32)) (some (S, some (.int (1 : Int32))))
def f5_mustClear (S : xSt) (o : Nat) (a1 : Int32) (a2 : Int32) : Option xR :=
  if a1 = 0 then
    xne ((0 : Int32) &&& 1 = (0 : Int32)) (some (S, some (.int (0 : Int32))))
  else
    if (S 5 o 10) ≤ (S 0 o 4) then
      if a1 = (1 : Int32) then
        f5_mustClear_J33 o S 
      else
        xbI (f5_losesBy S o a2) fun S1 r2 =>
        if r2 = 0 then
          xne ((0 : Int32) &&& 1 = (0 : Int32)) (some (S1, some (.int (0 : Int32))))
        else
          f5_mustClear_J33 o S1 
    else
      xne ((0 : Int32) &&& 1 = (0 : Int32)) (some (S, some (.int (0 : Int32))))
def f5_writeOut_J130 (o : Nat) (o1 : Nat)  (S : xSt)  : Option xR :=
  xbV (f5_writeCode S o (9 : Int32) (-6 : Int32) (0 : Int32)) fun S1 =>
  some (S1, none)
def f5_writeOut_J124 (o : Nat) (o1 : Nat) (k11 : xSt → Int32 → Int32 → Int32 → Int32 → Int32 → Option xR) (S : xSt) (i2 : Int32) (i4 : Int32) (i5 : Int32) (i6 : Int32) (i7 : Int32) : Option xR :=
  k11 S i2 i4 i5 i6 (i7 + (1 : Int32))
def b5_writeOut_L11 (o : Nat) (o1 : Nat)  (k11 : xSt → Int32 → Int32 → Int32 → Int32 → Int32 → Option xR) (S : xSt) (i2 : Int32) (i4 : Int32) (i5 : Int32) (i6 : Int32) (i7 : Int32) : Option xR :=
  if (240 : Int32) ≤ i7 then
    f5_writeOut_J130 o o1 S 
  else
    if i2 ≤ i6 then
      f5_writeOut_J130 o o1 S 
    else
      xbI (f0_longestAt S o o1 i6 i2) fun S1 r2 =>
      xat r2 512 fun j3 =>
      xbV (f5_writeCode S1 o r2 i6 (S1 12 o j3)) fun S4 =>
      xat r2 512 fun j5 =>
      if i2 ≤ (i6 + (S4 12 o j5)) then
        f5_writeOut_J124 o o1 k11 S4 i2 i4 i5 (i6 + (S4 12 o j5)) i7
      else
        xat (i6 + (S4 12 o j5)) 240 fun j6 =>
        xbV (f5_grow S4 o r2 (S4 23 o1 j6)) fun S7 =>
        xbI (f5_mustClear S7 o i4 i5) fun S8 r9 =>
        if r9 = 0 then
          f5_writeOut_J124 o o1 k11 S8 i2 i4 i5 (i6 + (S4 12 o j5)) i7
        else
          xbV (f5_writeCode S8 o (8 : Int32) (-6 : Int32) (0 : Int32)) fun S10 =>
          xlet (xup S10 5 o 8 ((S10 5 o 8) + (1 : Int32))) fun S11 =>
          xbV (f0_dropPhrases S11 o) fun S12 =>
          f5_writeOut_J124 o o1 k11 S12 i2 i4 i5 (i6 + (S4 12 o j5)) i7
def f5_writeOut_L11 (o : Nat) (o1 : Nat)  : Nat → xSt → Int32 → Int32 → Int32 → Int32 → Int32 → Option xR
  | 0 => fun _ _ _ _ _ _ => none
  | n + 1 => b5_writeOut_L11 o o1  (f5_writeOut_L11 o o1  n)
def f5_writeOut (S : xSt) (o : Nat) (o1 : Nat) (a2 : Int32) (a3 : Int32) (a4 : Int32) (a5 : Int32) : Option xR :=
  xbV (f5_begin S o a3) fun S1 =>
  f5_writeOut_L11 o o1 xFU S1 a2 a4 a5 (0 : Int32) (0 : Int32)
def f3_dropPhrases (S : xSt) (o : Nat)  : Option xR :=
  xlet (xup S 3 o 2 (10 : Int32)) fun S1 =>
  xlet (xup S1 3 o 10 (0 : Int32)) fun S2 =>
  some (S2, none)
def f3_begin (S : xSt) (o : Nat) (a1 : Int32) : Option xR :=
  xlet (xup S 3 o 8 ((1 : Int32) <<< (a1 &&& 31))) fun S1 =>
  xlet (xup S1 3 o 1 (0 : Int32)) fun S2 =>
  xlet (xup S2 3 o 3 (0 : Int32)) fun S3 =>
  xlet (xup S3 3 o 4 (-6 : Int32)) fun S4 =>
  xlet (xup S4 3 o 5 (0 : Int32)) fun S5 =>
  xbV (f3_dropPhrases S5 o) fun S6 =>
  some (S6, none)
def f3_noteFault (S : xSt) (o : Nat) (a1 : Int32) (a2 : Int32) : Option xR :=
  xlet (xup S 3 o 4 a1) fun S1 =>
  xlet (xup S1 3 o 5 a2) fun S2 =>
  some (S2, none)
def f3_canGrow (S : xSt) (o : Nat)  : Option xR :=
  if (S 3 o 10) ≤ 0 then
    xne ((0 : Int32) &&& 1 = (0 : Int32)) (some (S, some (.int (0 : Int32))))
  else
    if (S 3 o 8) ≤ (S 3 o 2) then
      xne ((0 : Int32) &&& 1 = (0 : Int32)) (some (S, some (.int (0 : Int32))))
    else
      if (512 : Int32) ≤ (S 3 o 2) then
        xne ((0 : Int32) &&& 1 = (0 : Int32)) (some (S, some (.int (0 : Int32))))
      else
        xne ((1 : Int32) &&& 1 = (1 : Int32)) (some (S, some (.int (1 : Int32))))
def f3_canStand_J27 (o : Nat)  (S : xSt)  : Option xR :=
  xne ((1 : Int32) &&& 1 = (1 : Int32)) (some (S, some (.int (1 : Int32))))
def f3_canStand (S : xSt) (o : Nat) (a1 : Int32) : Option xR :=
  if a1 < 0 then
    xne ((0 : Int32) &&& 1 = (0 : Int32)) (some (S, some (.int (0 : Int32))))
  else
    if a1 < (S 3 o 2) then
      f3_canStand_J27 o S 
    else
      if a1 = (S 3 o 2) then
        xbI (f3_canGrow S o) fun S1 r2 =>
        if r2 = 0 then
          xne ((0 : Int32) &&& 1 = (0 : Int32)) (some (S1, some (.int (0 : Int32))))
        else
          f3_canStand_J27 o S1 
      else
        xne ((0 : Int32) &&& 1 = (0 : Int32)) (some (S, some (.int (0 : Int32))))
def f3_readSign (S : xSt) (o : Nat) (a1 : Int32) : Option xR :=
  if (39621 : Int32) ≤ (S 3 o 1) then
    some (S, none)
  else
    xat (S 3 o 1) 39621 fun j1 =>
    xlet (xup S 19 o j1 a1) fun S2 =>
    xlet (xup S2 3 o 1 ((S2 3 o 1) + (1 : Int32))) fun S3 =>
    some (S3, none)
def b3_readPhrase_L2 (o : Nat)  (k2 : xSt → Int32 → Int32 → Int32 → Option xR) (S : xSt) (i1 : Int32) (i2 : Int32) (i3 : Int32) : Option xR :=
  if (i1 + i2) ≤ i3 then
    some (S, none)
  else
    if (S 3 o 1) ≤ i3 then
      some (S, none)
    else
      xat i3 39621 fun j1 =>
      xbV (f3_readSign S o (S 19 o j1)) fun S2 =>
      k2 S2 i1 i2 (i3 + (1 : Int32))
def f3_readPhrase_L2 (o : Nat)  : Nat → xSt → Int32 → Int32 → Int32 → Option xR
  | 0 => fun _ _ _ _ => none
  | n + 1 => b3_readPhrase_L2 o  (f3_readPhrase_L2 o  n)
def f3_readPhrase (S : xSt) (o : Nat) (a1 : Int32) (a2 : Int32) : Option xR :=
  f3_readPhrase_L2 o xFU S a1 a2 a1
def f3_readEntry_J67 (o : Nat)  (S : xSt) (i1 : Int32) : Option xR :=
  xlet (xup S 3 o 9 (S 3 o 1)) fun S1 =>
  if (8 : Int32) ≤ i1 then
    xat i1 512 fun j2 =>
    xlet (xup S1 3 o 10 (S1 21 o j2)) fun S3 =>
    xat i1 512 fun j4 =>
    xat i1 512 fun j5 =>
    xbV (f3_readPhrase S3 o (S3 20 o j4) (S3 21 o j5)) fun S6 =>
    some (S6, none)
  else
    xlet (xup S1 3 o 10 (1 : Int32)) fun S7 =>
    xbV (f3_readSign S7 o i1) fun S8 =>
    some (S8, none)
def f3_readEntry_J18 (o : Nat)  (S : xSt) (i1 : Int32) (k0 : Int32) (k1 : Int32) : Option xR :=
  xlet (xup S 3 o 3 (k1 + k0)) fun S1 =>
  xbI (f3_canGrow S1 o) fun S2 r3 =>
  if r3 = 0 then
    f3_readEntry_J67 o S2 i1
  else
    xat (S2 3 o 2) 512 fun j4 =>
    xlet (xup S2 20 o j4 (S2 3 o 9)) fun S5 =>
    xat (S5 3 o 2) 512 fun j6 =>
    xlet (xup S5 21 o j6 ((S5 3 o 10) + (1 : Int32))) fun S7 =>
    xlet (xup S7 3 o 2 ((S7 3 o 2) + (1 : Int32))) fun S8 =>
    f3_readEntry_J67 o S8 i1
def f3_readEntry (S : xSt) (o : Nat) (a1 : Int32) : Option xR :=
  if a1 = (S 3 o 2) then
    f3_readEntry_J18 o S a1 (1 : Int32) (S 3 o 3)
  else
    f3_readEntry_J18 o S a1 (0 : Int32) (S 3 o 3)
def f3_readAll_J91 (o : Nat) (o1 : Nat)  (S : xSt) (i2 : Int32) : Option xR :=
  xbV (f3_noteFault S o i2 (2 : Int32)) fun S1 =>
  some (S1, none)
def f3_readAll_J77 (o : Nat) (o1 : Nat)  (S : xSt) (i4 : Int32) : Option xR :=
  xbV (f3_noteFault S o i4 (1 : Int32)) fun S1 =>
  some (S1, none)
def f3_readAll_J85 (o : Nat) (o1 : Nat) (k8 : xSt → Int32 → Int32 → Option xR) (S : xSt) (i2 : Int32) (i4 : Int32) : Option xR :=
  k8 S i2 (i4 + (1 : Int32))
def f3_readAll_J27 (o : Nat) (o1 : Nat)  (S : xSt) (i2 : Int32) (i4 : Int32) : Option xR :=
  if i2 ≤ (i4 + (1 : Int32)) then
    some (S, none)
  else
    xbV (f3_noteFault S o (i4 + (1 : Int32)) (3 : Int32)) fun S1 =>
    some (S1, none)
def b3_readAll_L8 (o : Nat) (o1 : Nat)  (k8 : xSt → Int32 → Int32 → Option xR) (S : xSt) (i2 : Int32) (i4 : Int32) : Option xR :=
  if i2 ≤ i4 then
    f3_readAll_J91 o o1 S i2
  else
    xat i4 281 fun j1 =>
    if (S 32 o1 j1) = (9 : Int32) then
      f3_readAll_J27 o o1 S i2 i4
    else
      if (S 32 o1 j1) = (8 : Int32) then
        xbV (f3_dropPhrases S o) fun S5 =>
        f3_readAll_J85 o o1 k8 S5 i2 i4
      else
        xbI (f3_canStand S o (S 32 o1 j1)) fun S2 r3 =>
        if r3 = 0 then
          f3_readAll_J77 o o1 S2 i4
        else
          xbV (f3_readEntry S2 o (S 32 o1 j1)) fun S4 =>
          f3_readAll_J85 o o1 k8 S4 i2 i4
def f3_readAll_L8 (o : Nat) (o1 : Nat)  : Nat → xSt → Int32 → Int32 → Option xR
  | 0 => fun _ _ _ => none
  | n + 1 => b3_readAll_L8 o o1  (f3_readAll_L8 o o1  n)
def f3_readAll (S : xSt) (o : Nat) (o1 : Nat) (a2 : Int32) (a3 : Int32) : Option xR :=
  xbV (f3_begin S o a3) fun S1 =>
  f3_readAll_L8 o o1 xFU S1 a2 (0 : Int32)
def f6_refresh_J92   (S : xSt)  : Option xR :=
  xat (0 : Int32) 3 fun j1 =>
  xbV (f3_readAll S 0 0 (S 5 0 6) (S 22 0 j1)) fun S2 =>
  some (S2, none)
def b6_refresh_L50   (k50 : xSt → Int32 → Option xR) (S : xSt) (i1 : Int32) : Option xR :=
  if (S 5 0 6) ≤ i1 then
    f6_refresh_J92 S 
  else
    xat i1 281 fun j1 =>
    xat i1 281 fun j2 =>
    xat i1 281 fun j3 =>
    xlet (xup S 32 0 j3 ((S 25 0 j1) ^^^ (S 24 0 j2))) fun S4 =>
    k50 S4 (i1 + (1 : Int32))
def f6_refresh_L50   : Nat → xSt → Int32 → Option xR
  | 0 => fun _ _ => none
  | n + 1 => b6_refresh_L50   (f6_refresh_L50   n)
def f6_refresh (S : xSt)   : Option xR :=
  xat (0 : Int32) 3 fun j1 =>
  xat (1 : Int32) 3 fun j2 =>
  xat (2 : Int32) 3 fun j3 =>
  xbV (f5_writeOut S 0 0 (S 4 0 3) (S 22 0 j1) (S 22 0 j2) (S 22 0 j3)) fun S4 =>
  f6_refresh_L50 xFU S4 (0 : Int32)
def f6_set (S : xSt)  (a1 : Int32) (a2 : Int32) : Option xR :=
  xbI (f6_isSetting S a1 a2) fun S1 r2 =>
  if r2 = 0 then
    some (S1, some (.int (-2 : Int32)))
  else
    xbV (f1_record S1 0) fun S3 =>
    xat a1 3 fun j4 =>
    xat a1 3 fun j5 =>
    xlet (xup S3 22 0 j5 a2) fun S6 =>
    xbV (f4_mendCodes S6 0) fun S7 =>
    xbV (f6_refresh S7) fun S8 =>
    some (S8, some (.int (S3 22 0 j4)))
def f6_add (S : xSt)  (a1 : Int32) (a2 : Int32) : Option xR :=
  if a1 < 0 then
    some (S, some (.int (-2 : Int32)))
  else
    if (8 : Int32) ≤ a1 then
      some (S, some (.int (-2 : Int32)))
    else
      if a2 < (1 : Int32) then
        some (S, some (.int (-2 : Int32)))
      else
        if a2 ≤ (240 : Int32) then
          if ((S 4 0 3) + a2) ≤ (240 : Int32) then
            xbV (f1_record S 0) fun S1 =>
            xbV (ffill4 S1 23 0 240 (S1 4 0 3) ((S1 4 0 3) + a2) a1) fun S2 =>
            xlet (xup S2 4 0 3 ((S2 4 0 3) + a2)) fun S3 =>
            xbV (f4_mendCodes S3 0) fun S4 =>
            xbV (f6_refresh S4) fun S5 =>
            some (S5, some (.int (S5 4 0 3)))
          else
            some (S, some (.int (-4 : Int32)))
        else
          some (S, some (.int (-2 : Int32)))
def f6_cut (S : xSt)  (a1 : Int32) : Option xR :=
  if a1 < (1 : Int32) then
    some (S, some (.int (-2 : Int32)))
  else
    if a1 ≤ (240 : Int32) then
      if a1 ≤ (S 4 0 3) then
        xbV (f1_record S 0) fun S1 =>
        xlet (xup S1 4 0 3 ((S1 4 0 3) - a1)) fun S2 =>
        xbV (f4_mendCodes S2 0) fun S3 =>
        xbV (f6_refresh S3) fun S4 =>
        some (S4, some (.int (S4 4 0 3)))
      else
        some (S, some (.int (-5 : Int32)))
    else
      some (S, some (.int (-2 : Int32)))
def f6_isCode (S : xSt)  (a1 : Int32) : Option xR :=
  if a1 < 0 then
    xne ((0 : Int32) &&& 1 = (0 : Int32)) (some (S, some (.int (0 : Int32))))
  else
    if (S 5 0 6) ≤ a1 then
      xne ((0 : Int32) &&& 1 = (0 : Int32)) (some (S, some (.int (0 : Int32))))
    else
      if (281 : Int32) ≤ a1 then
        xne ((0 : Int32) &&& 1 = (0 : Int32)) (some (S, some (.int (0 : Int32))))
      else
        xne ((1 : Int32) &&& 1 = (1 : Int32)) (some (S, some (.int (1 : Int32))))
def f6_spoil (S : xSt)  (a1 : Int32) (a2 : Int32) : Option xR :=
  xbI (f6_isCode S a1) fun S1 r2 =>
  if r2 = 0 then
    some (S1, some (.int (-1 : Int32)))
  else
    if a2 < (1 : Int32) then
      some (S1, some (.int (-2 : Int32)))
    else
      if a2 ≤ (511 : Int32) then
        xbV (f1_record S1 0) fun S3 =>
        xat a1 281 fun j4 =>
        xat a1 281 fun j5 =>
        xlet (xup S3 24 0 j5 ((S3 24 0 j4) ^^^ a2)) fun S6 =>
        xbV (f6_refresh S6) fun S7 =>
        xat a1 281 fun j8 =>
        some (S7, some (.int (S7 32 0 j8)))
      else
        some (S1, some (.int (-2 : Int32)))
def f2_charactersIn_J59   (S : xSt) (i2 : Int64) (i4 : Int32) : Option xR :=
  if (lg_cmp i2 (0 : Int64)) = 0 then
    some (S, some (.int i4))
  else
    some (S, some (.int (0 : Int32)))
def b2_charactersIn_L5   (k5 : xSt → Int64 → Int32 → Option xR) (S : xSt) (i2 : Int64) (i4 : Int32) : Option xR :=
  if (8 : Int32) ≤ i4 then
    f2_charactersIn_J59 S i2 i4
  else
    if (lg_cmp (i2 &&& (255 : Int64)) (0 : Int64)) = 0 then
      f2_charactersIn_J59 S i2 i4
    else
      if (lg_cmp (i2 &&& (255 : Int64)) (33 : Int64)) < 0 then
        some (S, some (.int (0 : Int32)))
      else
        if (lg_cmp (i2 &&& (255 : Int64)) (126 : Int64)) ≤ 0 then
          k5 S (i2.toUInt64 >>> ((8 : Int32).toInt64.toUInt64 &&& Int64.toUInt64 63)).toInt64 (i4 + (1 : Int32))
        else
          some (S, some (.int (0 : Int32)))
def f2_charactersIn_L5   : Nat → xSt → Int64 → Int32 → Option xR
  | 0 => fun _ _ _ => none
  | n + 1 => b2_charactersIn_L5   (f2_charactersIn_L5   n)
def f2_charactersIn (S : xSt)  (a0 : Int64) : Option xR :=
  f2_charactersIn_L5 xFU S a0 (0 : Int32)
def b2_append_L5   (k5 : xSt → Int64 → Int32 → Option xR) (S : xSt) (i1 : Int64) (i4 : Int32) : Option xR :=
  if i4 < 0 then
    some (S, none)
  else
    if (80 : Int32) ≤ (S 2 0 4) then
      some (S, none)
    else
      xat (S 2 0 4) 80 fun j1 =>
      xlet (xup S 15 0 j1 (((i1.toUInt64 >>> (((8 : Int32) * i4).toInt64.toUInt64 &&& Int64.toUInt64 63)).toInt64).toInt32 &&& (255 : Int32))) fun S2 =>
      xlet (xup S2 2 0 4 ((S2 2 0 4) + (1 : Int32))) fun S3 =>
      k5 S3 i1 (i4 + (-1 : Int32))
def f2_append_L5   : Nat → xSt → Int64 → Int32 → Option xR
  | 0 => fun _ _ _ => none
  | n + 1 => b2_append_L5   (f2_append_L5   n)
def f2_append (S : xSt)  (a1 : Int64) (a3 : Int32) : Option xR :=
  f2_append_L5 xFU S a1 (a3 - (1 : Int32))
def f6_put (S : xSt)  (a1 : Int64) : Option xR :=
  xbI (f2_charactersIn S a1) fun S1 r2 =>
  if r2 = 0 then
    some (S1, some (.int (-2 : Int32)))
  else
    if ((S1 2 0 4) + r2) ≤ (80 : Int32) then
      xbV (f2_append S1 a1 r2) fun S3 =>
      some (S3, some (.int (S3 2 0 4)))
    else
      some (S1, some (.int (-4 : Int32)))
def f6_wipe (S : xSt)   : Option xR :=
  xlet (xup S 2 0 4 (0 : Int32)) fun S1 =>
  some (S1, some (.int (S 2 0 4)))
def f2_isDigit (S : xSt)  (a0 : Int32) : Option xR :=
  if a0 < (48 : Int32) then
    xne ((0 : Int32) &&& 1 = (0 : Int32)) (some (S, some (.int (0 : Int32))))
  else
    if (57 : Int32) < a0 then
      xne ((0 : Int32) &&& 1 = (0 : Int32)) (some (S, some (.int (0 : Int32))))
    else
      xne ((1 : Int32) &&& 1 = (1 : Int32)) (some (S, some (.int (1 : Int32))))
def f2_isSign (S : xSt)  (a0 : Int32) : Option xR :=
  if a0 < (97 : Int32) then
    xne ((0 : Int32) &&& 1 = (0 : Int32)) (some (S, some (.int (0 : Int32))))
  else
    if (105 : Int32) ≤ a0 then
      xne ((0 : Int32) &&& 1 = (0 : Int32)) (some (S, some (.int (0 : Int32))))
    else
      xne ((1 : Int32) &&& 1 = (1 : Int32)) (some (S, some (.int (1 : Int32))))
def f2_findFault_J161   (S : xSt)  : Option xR :=
  some (S, some (.int (S 2 0 4)))
def f2_findFault_J149   (S : xSt) (i1 : Int32) (i2 : Int32) (i3 : Int32) : Option xR :=
  if i2 = 0 then
    if i1 = 0 then
      if i3 = 0 then
        f2_findFault_J161 S 
      else
        some (S, some (.int (-6 : Int32)))
    else
      f2_findFault_J161 S 
  else
    f2_findFault_J161 S 
def f2_findFault_J143  (k9 : xSt → Int32 → Int32 → Int32 → Int32 → Option xR) (S : xSt) (i1 : Int32) (i2 : Int32) (i3 : Int32) (i4 : Int32) : Option xR :=
  k9 S i1 i2 i3 (i4 + (1 : Int32))
def b2_findFault_L9   (k9 : xSt → Int32 → Int32 → Int32 → Int32 → Option xR) (S : xSt) (i1 : Int32) (i2 : Int32) (i3 : Int32) (i4 : Int32) : Option xR :=
  if (S 2 0 4) ≤ i4 then
    f2_findFault_J149 S i1 i2 i3
  else
    xat i4 80 fun j1 =>
    xbI (f2_isDigit S (S 15 0 j1)) fun S2 r3 =>
    if r3 = 0 then
      xbI (f2_isSign S2 (S 15 0 j1)) fun S4 r5 =>
      if r5 = 0 then
        if (S 15 0 j1) = (40 : Int32) then
          if i2 = (1 : Int32) then
            some (S4, some (.int i4))
          else
            if i1 = (3 : Int32) then
              some (S4, some (.int i4))
            else
              f2_findFault_J143 k9 S4 (i1 + (1 : Int32)) (0 : Int32) (0 : Int32) i4
        else
          if (S 15 0 j1) = (41 : Int32) then
            if i2 = 0 then
              if i1 = 0 then
                some (S4, some (.int i4))
              else
                if i3 = 0 then
                  some (S4, some (.int i4))
                else
                  f2_findFault_J143 k9 S4 (i1 + (-1 : Int32)) i2 i3 i4
            else
              some (S4, some (.int i4))
          else
            some (S4, some (.int i4))
      else
        if i2 = (1 : Int32) then
          some (S4, some (.int i4))
        else
          f2_findFault_J143 k9 S4 i1 (0 : Int32) (1 : Int32) i4
    else
      if (((i2 * (10 : Int32)) + (S 15 0 j1)) - (48 : Int32)) = 0 then
        some (S2, some (.int i4))
      else
        if (((i2 * (10 : Int32)) + (S 15 0 j1)) - (48 : Int32)) ≤ (60 : Int32) then
          f2_findFault_J143 k9 S2 i1 (((i2 * (10 : Int32)) + (S 15 0 j1)) - (48 : Int32)) i3 i4
        else
          some (S2, some (.int i4))
def f2_findFault_L9   : Nat → xSt → Int32 → Int32 → Int32 → Int32 → Option xR
  | 0 => fun _ _ _ _ _ => none
  | n + 1 => b2_findFault_L9   (f2_findFault_L9   n)
def f2_findFault (S : xSt)   : Option xR :=
  f2_findFault_L9 xFU S (0 : Int32) (0 : Int32) (0 : Int32) (0 : Int32)
def f6_fault (S : xSt)   : Option xR :=
  xbI (f2_findFault S) fun S1 r2 =>
  some (S1, some (.int r2))
def f2_spellSign (S : xSt)  (a1 : Int32) (a2 : Int32) (a3 : Int32) : Option xR :=
  if (a1 + a3) ≤ (240 : Int32) then
    xbV (ffill4 S 16 0 240 a1 (a1 + a3) a2) fun S1 =>
    some (S1, some (.int (a1 + a3)))
  else
    some (S, some (.int (241 : Int32)))
def b2_repeat_L24   (k24 : xSt → Int32 → Int32 → Int32 → Int32 → Option xR) (S : xSt) (i1 : Int32) (i2 : Int32) (i4 : Int32) (i5 : Int32) : Option xR :=
  if i4 ≤ i5 then
    some (S, some (.int i4))
  else
    xat (i5 - (i2 - i1)) 240 fun j1 =>
    xat i5 240 fun j2 =>
    xlet (xup S 16 0 j2 (S 16 0 j1)) fun S3 =>
    k24 S3 i1 i2 i4 (i5 + (1 : Int32))
def f2_repeat_L24   : Nat → xSt → Int32 → Int32 → Int32 → Int32 → Option xR
  | 0 => fun _ _ _ _ _ => none
  | n + 1 => b2_repeat_L24   (f2_repeat_L24   n)
def f2_repeat (S : xSt)  (a1 : Int32) (a2 : Int32) (a3 : Int32) : Option xR :=
  if (a1 + ((a2 - a1) * a3)) ≤ (240 : Int32) then
    f2_repeat_L24 xFU S a1 a2 (a1 + ((a2 - a1) * a3)) a2
  else
    some (S, some (.int (241 : Int32)))
def f2_spell_J147  (k9 : xSt → Int32 → Int32 → Int32 → Int32 → Option xR) (S : xSt) (i1 : Int32) (i2 : Int32) (i3 : Int32) (i4 : Int32) : Option xR :=
  k9 S i1 i2 i3 (i4 + (1 : Int32))
def f2_spell_J129  (k9 : xSt → Int32 → Int32 → Int32 → Int32 → Option xR) (S : xSt) (i1 : Int32) (i2 : Int32) (i3 : Int32) (i4 : Int32) (i5 : Int32) : Option xR :=
  xbI (f2_spellSign S i3 (i5 - (97 : Int32)) (if i2 < (1 : Int32) then (1 : Int32) else i2)) fun S1 r2 =>
  f2_spell_J147 k9 S1 i1 (0 : Int32) r2 i4
def f2_spell_J94  (k9 : xSt → Int32 → Int32 → Int32 → Int32 → Option xR) (S : xSt) (i1 : Int32) (i2 : Int32) (i3 : Int32) (i4 : Int32) (i5 : Int32) : Option xR :=
  if i5 = (41 : Int32) then
    if i1 ≤ 0 then
      f2_spell_J129 k9 S i1 i2 i3 i4 i5
    else
      xat (i1 + (-1 : Int32)) 3 fun j1 =>
      xat (i1 + (-1 : Int32)) 3 fun j2 =>
      xbI (f2_repeat S (S 17 0 j1) i3 (S 18 0 j2)) fun S3 r4 =>
      f2_spell_J147 k9 S3 (i1 + (-1 : Int32)) i2 r4 i4
  else
    f2_spell_J129 k9 S i1 i2 i3 i4 i5
def b2_spell_L9   (k9 : xSt → Int32 → Int32 → Int32 → Int32 → Option xR) (S : xSt) (i1 : Int32) (i2 : Int32) (i3 : Int32) (i4 : Int32) : Option xR :=
  if (S 2 0 4) ≤ i4 then
    some (S, some (.int i3))
  else
    if (240 : Int32) < i3 then
      some (S, some (.int i3))
    else
      xat i4 80 fun j1 =>
      xbI (f2_isDigit S (S 15 0 j1)) fun S2 r3 =>
      if r3 = 0 then
        if (S 15 0 j1) = (40 : Int32) then
          if (3 : Int32) ≤ i1 then
            f2_spell_J94 k9 S2 i1 i2 i3 i4 (S 15 0 j1)
          else
            xat i1 3 fun j4 =>
            xlet (xup S2 17 0 j4 i3) fun S5 =>
            xat i1 3 fun j6 =>
            xlet (xup S5 18 0 j6 (if i2 < (1 : Int32) then (1 : Int32) else i2)) fun S7 =>
            f2_spell_J147 k9 S7 (i1 + (1 : Int32)) (0 : Int32) i3 i4
        else
          f2_spell_J94 k9 S2 i1 i2 i3 i4 (S 15 0 j1)
      else
        f2_spell_J147 k9 S2 i1 (((i2 * (10 : Int32)) + (S 15 0 j1)) - (48 : Int32)) i3 i4
def f2_spell_L9   : Nat → xSt → Int32 → Int32 → Int32 → Int32 → Option xR
  | 0 => fun _ _ _ _ _ => none
  | n + 1 => b2_spell_L9   (f2_spell_L9   n)
def f2_spell (S : xSt)   : Option xR :=
  f2_spell_L9 xFU S (0 : Int32) (0 : Int32) (0 : Int32) (0 : Int32)
def f6_load (S : xSt)   : Option xR :=
  xbI (f2_findFault S) fun S1 r2 =>
  if r2 = (-6 : Int32) then
    xbI (f2_spell S1) fun S3 r4 =>
    if ((S3 4 0 3) + r4) ≤ (240 : Int32) then
      xbV (f1_record S3 0) fun S5 =>
      xne (xcpok (0 : Int32) (S5 4 0 3) r4 240 240) <|
      xlet (xua S5 23 0 (va_cpy (S5 16 0) (S5 23 0) ((0 : Int32)).toNatClampNeg ((S5 4 0 3)).toNatClampNeg (r4).toNatClampNeg)) fun S6 =>
      xlet (xup S6 4 0 3 ((S6 4 0 3) + r4)) fun S7 =>
      xlet (xup S7 2 0 4 (0 : Int32)) fun S8 =>
      xbV (f4_mendCodes S8 0) fun S9 =>
      xbV (f6_refresh S9) fun S10 =>
      some (S10, some (.int (S10 4 0 3)))
    else
      some (S3, some (.int (-4 : Int32)))
  else
    some (S1, some (.int (-3 : Int32)))
def f6_sign_J15   (S : xSt)  : Option xR :=
  some (S, some (.int (-1 : Int32)))
def f6_sign (S : xSt)  (a1 : Int32) : Option xR :=
  if a1 < 0 then
    f6_sign_J15 S 
  else
    if a1 < (S 4 0 3) then
      xat a1 240 fun j1 =>
      some (S, some (.int (S 23 0 j1)))
    else
      f6_sign_J15 S 
def f6_ofCode (S : xSt)  (a1 : Int32) (a2 : Int32) : Option xR :=
  xbI (f6_isCode S a1) fun S1 r2 =>
  if r2 = 0 then
    some (S1, some (.int (-1 : Int32)))
  else
    if a2.toInt < 0 ∨ 5 < a2.toInt then
      some (S1, some (.int (-2 : Int32)))
    else match (a2.toInt - 0).toNat with
    | 0 =>
      xat a1 281 fun j3 =>
      some (S1, some (.int (S1 25 0 j3)))
    | 1 =>
      xat a1 281 fun j4 =>
      some (S1, some (.int (S1 32 0 j4)))
    | 2 =>
      xat a1 281 fun j5 =>
      some (S1, some (.int (S1 26 0 j5)))
    | 3 =>
      xat a1 281 fun j6 =>
      some (S1, some (.int (S1 27 0 j6)))
    | 4 =>
      xat a1 281 fun j7 =>
      some (S1, some (.int (S1 28 0 j7)))
    | 5 =>
      xat a1 281 fun j8 =>
      some (S1, some (.int (S1 29 0 j8)))
    | _ => none
def f4_countSpoiled_J26 (o : Nat) (k4 : xSt → Int32 → Int32 → Option xR) (S : xSt) (i2 : Int32) (k0 : Int32) (k1 : Int32) : Option xR :=
  k4 S (k1 + k0) (i2 + (1 : Int32))
def b4_countSpoiled_L4 (o : Nat)  (k4 : xSt → Int32 → Int32 → Option xR) (S : xSt) (i1 : Int32) (i2 : Int32) : Option xR :=
  if (281 : Int32) ≤ i2 then
    some (S, some (.int i1))
  else
    xat i2 281 fun j1 =>
    if (S 24 o j1) = 0 then
      f4_countSpoiled_J26 o k4 S i2 (0 : Int32) i1
    else
      f4_countSpoiled_J26 o k4 S i2 (1 : Int32) i1
def f4_countSpoiled_L4 (o : Nat)  : Nat → xSt → Int32 → Int32 → Option xR
  | 0 => fun _ _ _ => none
  | n + 1 => b4_countSpoiled_L4 o  (f4_countSpoiled_L4 o  n)
def f4_countSpoiled (S : xSt) (o : Nat)  : Option xR :=
  f4_countSpoiled_L4 o xFU S (0 : Int32) (0 : Int32)
def f6_count (S : xSt)  (a1 : Int32) : Option xR :=
  if a1.toInt < 0 ∨ 11 < a1.toInt then
    some (S, some (.int (-2 : Int32)))
  else match (a1.toInt - 0).toNat with
  | 0 =>
    some (S, some (.int (S 4 0 3)))
  | 1 =>
    some (S, some (.int (S 5 0 6)))
  | 2 =>
    some (S, some (.int (S 5 0 7)))
  | 3 =>
    some (S, some (.int (S 5 0 8)))
  | 4 =>
    some (S, some (.int (S 0 0 4)))
  | 5 =>
    some (S, some (.int (S 5 0 9)))
  | 6 =>
    xbI (f4_countSpoiled S 0) fun S1 r2 =>
    some (S1, some (.int r2))
  | 7 =>
    some (S, some (.int (S 2 0 4)))
  | 8 =>
    some (S, some (.int (S 1 0 2)))
  | 9 =>
    xat (0 : Int32) 3 fun j3 =>
    some (S, some (.int (S 22 0 j3)))
  | 10 =>
    xat (1 : Int32) 3 fun j4 =>
    some (S, some (.int (S 22 0 j4)))
  | 11 =>
    xat (2 : Int32) 3 fun j5 =>
    some (S, some (.int (S 22 0 j5)))
  | _ => none
def f6_entry (S : xSt)  (a1 : Int32) (a2 : Int32) : Option xR :=
  if a1 < 0 then
    some (S, some (.int (-1 : Int32)))
  else
    if (S 0 0 4) ≤ a1 then
      some (S, some (.int (-1 : Int32)))
    else
      if a1 < (512 : Int32) then
        if a2.toInt < 0 ∨ 2 < a2.toInt then
          some (S, some (.int (-2 : Int32)))
        else match (a2.toInt - 0).toNat with
        | 0 =>
          xat a1 512 fun j1 =>
          some (S, some (.int (S 12 0 j1)))
        | 1 =>
          xat a1 512 fun j2 =>
          some (S, some (.int (S 11 0 j2)))
        | 2 =>
          xat a1 512 fun j3 =>
          some (S, some (.int (S 10 0 j3)))
        | _ => none
      else
        some (S, some (.int (-1 : Int32)))
def f3_firstDifference_J41 (o : Nat) (o1 : Nat)  (S : xSt) (i2 : Int32) (i3 : Int32) : Option xR :=
  if (S 3 o 1) = i2 then
    some (S, some (.int (-6 : Int32)))
  else
    some (S, some (.int i3))
def b3_firstDifference_L12 (o : Nat) (o1 : Nat)  (k12 : xSt → Int32 → Int32 → Int32 → Option xR) (S : xSt) (i2 : Int32) (i3 : Int32) (i4 : Int32) : Option xR :=
  if i3 ≤ i4 then
    f3_firstDifference_J41 o o1 S i2 i3
  else
    xat i4 39621 fun j1 =>
    xat i4 240 fun j2 =>
    if (S 19 o j1) = (S 23 o1 j2) then
      k12 S i2 i3 (i4 + (1 : Int32))
    else
      some (S, some (.int i4))
def f3_firstDifference_L12 (o : Nat) (o1 : Nat)  : Nat → xSt → Int32 → Int32 → Int32 → Option xR
  | 0 => fun _ _ _ _ => none
  | n + 1 => b3_firstDifference_L12 o o1  (f3_firstDifference_L12 o o1  n)
def f3_firstDifference (S : xSt) (o : Nat) (o1 : Nat) (a2 : Int32) : Option xR :=
  f3_firstDifference_L12 o o1 xFU S a2 (if a2 < (S 3 o 1) then a2 else (S 3 o 1)) (0 : Int32)
def f6_reading (S : xSt)  (a1 : Int32) : Option xR :=
  if a1.toInt < 0 ∨ 5 < a1.toInt then
    some (S, some (.int (-2 : Int32)))
  else match (a1.toInt - 0).toNat with
  | 0 =>
    some (S, some (.int (S 3 0 1)))
  | 1 =>
    some (S, some (.int (S 3 0 4)))
  | 2 =>
    some (S, some (.int (S 3 0 5)))
  | 3 =>
    some (S, some (.int (S 3 0 2)))
  | 4 =>
    some (S, some (.int (S 3 0 3)))
  | 5 =>
    xbI (f3_firstDifference S 0 0 (S 4 0 3)) fun S1 r2 =>
    some (S1, some (.int r2))
  | _ => none
def f6_read_J21   (S : xSt)  : Option xR :=
  some (S, some (.int (-1 : Int32)))
def f6_read (S : xSt)  (a1 : Int32) : Option xR :=
  if a1 < 0 then
    f6_read_J21 S 
  else
    if (S 3 0 1) ≤ a1 then
      f6_read_J21 S 
    else
      if a1 < (39621 : Int32) then
        xat a1 39621 fun j1 =>
        some (S, some (.int (S 19 0 j1)))
      else
        f6_read_J21 S 
def f6_trialBits (S : xSt)  (a1 : Int32) (a2 : Int32) (a3 : Int32) : Option xR :=
  xat (2 : Int32) 3 fun j1 =>
  xbV (f5_writeOut S 1 0 a1 a2 a3 (S 22 0 j1)) fun S2 =>
  some (S2, some (.int (S2 5 1 7)))
def f6_bitsWith (S : xSt)  (a1 : Int32) (a2 : Int32) : Option xR :=
  xbI (f6_isSetting S (0 : Int32) a1) fun S1 r2 =>
  if r2 = 0 then
    some (S1, some (.int (-2 : Int32)))
  else
    xbI (f6_isSetting S1 (1 : Int32) a2) fun S3 r4 =>
    if r4 = 0 then
      some (S3, some (.int (-2 : Int32)))
    else
      xbI (f6_trialBits S3 (S3 4 0 3) a1 a2) fun S5 r6 =>
      some (S5, some (.int r6))
def f6_best_J102   (S : xSt) (i1 : Int32) (i2 : Int32) (i3 : Int32) (i4 : Int32) : Option xR :=
  if i1 = 0 then
    some (S, some (.int i2))
  else
    if i1 = (1 : Int32) then
      some (S, some (.int i3))
    else
      some (S, some (.int i4))
def f6_best_J96  (k29 : xSt → Int32 → Int32 → Int32 → Int32 → Int32 → Option xR) (S : xSt) (i1 : Int32) (i2 : Int32) (i3 : Int32) (i4 : Int32) (i5 : Int32) : Option xR :=
  k29 S i1 i2 i3 i4 (i5 + (1 : Int32))
def f6_best_J90  (k29 : xSt → Int32 → Int32 → Int32 → Int32 → Int32 → Option xR) (k46 : xSt → Int32 → Int32 → Int32 → Int32 → Int32 → Int32 → Option xR) (S : xSt) (i1 : Int32) (i2 : Int32) (i3 : Int32) (i4 : Int32) (i5 : Int32) (i6 : Int32) : Option xR :=
  k46 S i1 i2 i3 i4 i5 (i6 + (1 : Int32))
def b6_best_L46  (k29 : xSt → Int32 → Int32 → Int32 → Int32 → Int32 → Option xR) (k46 : xSt → Int32 → Int32 → Int32 → Int32 → Int32 → Int32 → Option xR) (S : xSt) (i1 : Int32) (i2 : Int32) (i3 : Int32) (i4 : Int32) (i5 : Int32) (i6 : Int32) : Option xR :=
  xat (1 : Int32) 3 fun j1 =>
  if (xSf 1 j1) < i6 then
    f6_best_J96 k29 S i1 i2 i3 i4 i5
  else
    xbI (f6_trialBits S (S 4 0 3) i5 i6) fun S2 r3 =>
    if i4 ≤ r3 then
      f6_best_J90 k29 k46 S2 i1 i2 i3 i4 i5 i6
    else
      f6_best_J90 k29 k46 S2 i1 i5 i6 r3 i5 i6
def f6_best_L46  (k29 : xSt → Int32 → Int32 → Int32 → Int32 → Int32 → Option xR) : Nat → xSt → Int32 → Int32 → Int32 → Int32 → Int32 → Int32 → Option xR
  | 0 => fun _ _ _ _ _ _ _ => none
  | n + 1 => b6_best_L46  k29 (f6_best_L46  k29 n)
def b6_best_L29   (k29 : xSt → Int32 → Int32 → Int32 → Int32 → Int32 → Option xR) (S : xSt) (i1 : Int32) (i2 : Int32) (i3 : Int32) (i4 : Int32) (i5 : Int32) : Option xR :=
  xat (0 : Int32) 3 fun j1 =>
  if (xSf 1 j1) < i5 then
    f6_best_J102 S i1 i2 i3 i4
  else
    xat (1 : Int32) 3 fun j2 =>
    f6_best_L46 k29 xFU S i1 i2 i3 i4 i5 (xSf 0 j2)
def f6_best_L29   : Nat → xSt → Int32 → Int32 → Int32 → Int32 → Int32 → Option xR
  | 0 => fun _ _ _ _ _ _ => none
  | n + 1 => b6_best_L29   (f6_best_L29   n)
def f6_best (S : xSt)  (a1 : Int32) : Option xR :=
  if a1 < 0 then
    some (S, some (.int (-2 : Int32)))
  else
    if a1 ≤ (2 : Int32) then
      xat (0 : Int32) 3 fun j1 =>
      f6_best_L29 xFU S a1 (-6 : Int32) (-6 : Int32) (1073741824 : Int32) (xSf 0 j1)
    else
      some (S, some (.int (-2 : Int32)))
def f6_signsLeft (S : xSt)  (a1 : Int32) : Option xR :=
  xne (xcpok (0 : Int32) (0 : Int32) (S 5 0 6) 281 281) <|
  xlet (xua S 32 1 (va_cpy (S 25 0) (S 32 1) ((0 : Int32)).toNatClampNeg ((0 : Int32)).toNatClampNeg ((S 5 0 6)).toNatClampNeg)) fun S1 =>
  xat a1 281 fun j2 =>
  xat a1 281 fun j3 =>
  xlet (xup S1 32 1 j3 ((S1 32 1 j2) ^^^ (1 : Int32))) fun S4 =>
  xat (0 : Int32) 3 fun j5 =>
  xbV (f3_readAll S4 1 1 (S4 5 0 6) (S4 22 0 j5)) fun S6 =>
  xbI (f3_firstDifference S6 1 0 (S6 4 0 3)) fun S7 r8 =>
  if r8 = (-6 : Int32) then
    some (S7, some (.int (S7 4 0 3)))
  else
    some (S7, some (.int r8))
def f6_tenderest_J62   (S : xSt) (i1 : Int32) (i2 : Int32) (i3 : Int32) : Option xR :=
  if i1 = 0 then
    some (S, some (.int i2))
  else
    some (S, some (.int i3))
def f6_tenderest_J56  (k20 : xSt → Int32 → Int32 → Int32 → Int32 → Option xR) (S : xSt) (i1 : Int32) (i2 : Int32) (i3 : Int32) (i4 : Int32) : Option xR :=
  k20 S i1 i2 i3 (i4 + (1 : Int32))
def b6_tenderest_L20   (k20 : xSt → Int32 → Int32 → Int32 → Int32 → Option xR) (S : xSt) (i1 : Int32) (i2 : Int32) (i3 : Int32) (i4 : Int32) : Option xR :=
  if (S 5 0 6) ≤ i4 then
    f6_tenderest_J62 S i1 i2 i3
  else
    if i3 ≤ 0 then
      f6_tenderest_J62 S i1 i2 i3
    else
      xbI (f6_signsLeft S i4) fun S1 r2 =>
      if i3 ≤ r2 then
        f6_tenderest_J56 k20 S1 i1 i2 i3 i4
      else
        f6_tenderest_J56 k20 S1 i1 i4 r2 i4
def f6_tenderest_L20   : Nat → xSt → Int32 → Int32 → Int32 → Int32 → Option xR
  | 0 => fun _ _ _ _ _ => none
  | n + 1 => b6_tenderest_L20   (f6_tenderest_L20   n)
def f6_tenderest_J12   (S : xSt) (i1 : Int32) : Option xR :=
  f6_tenderest_L20 xFU S i1 (0 : Int32) (1073741824 : Int32) (0 : Int32)
def f6_tenderest (S : xSt)  (a1 : Int32) : Option xR :=
  if a1 = 0 then
    f6_tenderest_J12 S a1
  else
    if a1 = (1 : Int32) then
      f6_tenderest_J12 S a1
    else
      some (S, some (.int (-2 : Int32)))
def f6_cheapest_J111   (S : xSt) (i1 : Int32) (i2 : Int32) (i3 : Int32) : Option xR :=
  if i1 = 0 then
    some (S, some (.int i2))
  else
    some (S, some (.int i3))
def f6_cheapest_J105  (k36 : xSt → Int32 → Int32 → Int32 → Int32 → Option xR) (S : xSt) (i1 : Int32) (i2 : Int32) (i3 : Int32) (i4 : Int32) : Option xR :=
  k36 S i1 i2 i3 (i4 + (1 : Int32))
def b6_cheapest_L36   (k36 : xSt → Int32 → Int32 → Int32 → Int32 → Option xR) (S : xSt) (i1 : Int32) (i2 : Int32) (i3 : Int32) (i4 : Int32) : Option xR :=
  if (8 : Int32) ≤ i4 then
    f6_cheapest_J111 S i1 i2 i3
  else
    xat (S 4 0 3) 240 fun j1 =>
    xlet (xup S 23 0 j1 i4) fun S2 =>
    xat (0 : Int32) 3 fun j3 =>
    xat (1 : Int32) 3 fun j4 =>
    xbI (f6_trialBits S2 ((S2 4 0 3) + (1 : Int32)) (S2 22 0 j3) (S2 22 0 j4)) fun S5 r6 =>
    if i3 ≤ r6 then
      f6_cheapest_J105 k36 S5 i1 i2 i3 i4
    else
      f6_cheapest_J105 k36 S5 i1 i4 r6 i4
def f6_cheapest_L36   : Nat → xSt → Int32 → Int32 → Int32 → Int32 → Option xR
  | 0 => fun _ _ _ _ _ => none
  | n + 1 => b6_cheapest_L36   (f6_cheapest_L36   n)
def f6_cheapest_J12   (S : xSt) (i1 : Int32) : Option xR :=
  if (S 4 0 3) < (240 : Int32) then
    f6_cheapest_L36 xFU S i1 (0 : Int32) (1073741824 : Int32) (0 : Int32)
  else
    some (S, some (.int (-5 : Int32)))
def f6_cheapest (S : xSt)  (a1 : Int32) : Option xR :=
  if a1 = 0 then
    f6_cheapest_J12 S a1
  else
    if a1 = (1 : Int32) then
      f6_cheapest_J12 S a1
    else
      some (S, some (.int (-2 : Int32)))
def f1_takeBack_J31 (o1 : Nat)  (S : xSt) (k0 : Int32) : Option xR :=
  xlet (xup S 1 0 1 k0) fun S1 =>
  xlet (xup S1 1 0 2 ((S1 1 0 2) - (1 : Int32))) fun S2 =>
  some (S2, none)
def f1_takeBack (S : xSt) (o1 : Nat)  : Option xR :=
  xat (S 1 0 1) 6 fun j1 =>
  xbV (f6_copyState S (1 + j1) o1) fun S2 =>
  if 0 < (S2 1 0 1) then
    f1_takeBack_J31 o1 S2 ((S2 1 0 1) - (1 : Int32))
  else
    f1_takeBack_J31 o1 S2 (5 : Int32)
def f6_undo (S : xSt)   : Option xR :=
  if (S 1 0 2) = 0 then
    some (S, some (.int (-5 : Int32)))
  else
    xbV (f1_takeBack S 0) fun S1 =>
    xbV (f6_refresh S1) fun S2 =>
    some (S2, some (.int (S2 1 0 2)))
def f6_save (S : xSt)  (a1 : Int32) : Option xR :=
  if a1 < 0 then
    some (S, some (.int (-2 : Int32)))
  else
    if a1 < (2 : Int32) then
      xat a1 2 fun j1 =>
      xbV (f6_copyState S 0 (7 + j1)) fun S2 =>
      xat a1 2 fun j3 =>
      xlet (xup S2 31 0 j3 (vp_nar .boolean (1 : Int32))) fun S4 =>
      some (S4, some (.int (S4 4 0 3)))
    else
      some (S, some (.int (-2 : Int32)))
def f6_restore (S : xSt)  (a1 : Int32) : Option xR :=
  if a1 < 0 then
    some (S, some (.int (-2 : Int32)))
  else
    if a1 < (2 : Int32) then
      xat a1 2 fun j1 =>
      if (S 31 0 j1) = 0 then
        some (S, some (.int (-5 : Int32)))
      else
        xbV (f1_record S 0) fun S2 =>
        xat a1 2 fun j3 =>
        xbV (f6_copyState S2 (7 + j3) 0) fun S4 =>
        xbV (f6_refresh S4) fun S5 =>
        some (S5, some (.int (S5 4 0 3)))
    else
      some (S, some (.int (-2 : Int32)))
def f7_in (S : xSt)  (a0 : Int32) (a1 : Int32) (a2 : Int32) : Option xR :=
  if a0 < a1 then
    xne ((0 : Int32) &&& 1 = (0 : Int32)) (some (S, some (.int (0 : Int32))))
  else
    if a2 < a0 then
      xne ((0 : Int32) &&& 1 = (0 : Int32)) (some (S, some (.int (0 : Int32))))
    else
      xne ((1 : Int32) &&& 1 = (1 : Int32)) (some (S, some (.int (1 : Int32))))
def f7_record_J81   (S : xSt)  : Option xR :=
  xlet (xup S 7 0 2 ((S 7 0 2) + (1 : Int32))) fun S1 =>
  some (S1, none)
def b7_record_L47   (k47 : xSt → Int32 → Option xR) (S : xSt) (i1 : Int32) : Option xR :=
  if (560 : Int32) ≤ i1 then
    f7_record_J81 S 
  else
    xat i1 560 fun j1 =>
    xat (((S 7 0 2) * (560 : Int32)) + i1) 3360 fun j2 =>
    xlet (xup S 34 0 j2 (S 33 0 j1)) fun S3 =>
    k47 S3 (i1 + (1 : Int32))
def f7_record_L47   : Nat → xSt → Int32 → Option xR
  | 0 => fun _ _ => none
  | n + 1 => b7_record_L47   (f7_record_L47   n)
def f7_record_J45   (S : xSt)  : Option xR :=
  f7_record_L47 xFU S (0 : Int32)
def f7_record_J40   (S : xSt)  : Option xR :=
  xlet (xup S 7 0 2 (5 : Int32)) fun S1 =>
  f7_record_J45 S1 
def b7_record_L11   (k11 : xSt → Int32 → Option xR) (S : xSt) (i1 : Int32) : Option xR :=
  if (2800 : Int32) ≤ i1 then
    f7_record_J40 S 
  else
    xat (i1 + (560 : Int32)) 3360 fun j1 =>
    xat i1 3360 fun j2 =>
    xlet (xup S 34 0 j2 (S 34 0 j1)) fun S3 =>
    k11 S3 (i1 + (1 : Int32))
def f7_record_L11   : Nat → xSt → Int32 → Option xR
  | 0 => fun _ _ => none
  | n + 1 => b7_record_L11   (f7_record_L11   n)
def f7_record (S : xSt)   : Option xR :=
  if (S 7 0 2) = (6 : Int32) then
    f7_record_L11 xFU S (0 : Int32)
  else
    f7_record_J45 S 
def b7_mend_L4   (k4 : xSt → Int32 → Option xR) (S : xSt) (i1 : Int32) : Option xR :=
  if (560 : Int32) ≤ i1 then
    some (S, none)
  else
    xat i1 560 fun j1 =>
    xlet (xup S 33 0 j1 (0 : Int32)) fun S2 =>
    k4 S2 (i1 + (1 : Int32))
def f7_mend_L4   : Nat → xSt → Int32 → Option xR
  | 0 => fun _ _ => none
  | n + 1 => b7_mend_L4   (f7_mend_L4   n)
def f7_mend (S : xSt)   : Option xR :=
  f7_mend_L4 xFU S (250 : Int32)
def f7_isSetting (S : xSt)  (a0 : Int32) (a1 : Int32) : Option xR :=
  if a0 = 0 then
    xbI (f7_in S a1 (4 : Int32) (9 : Int32)) fun S5 r6 =>
    xne (r6 &&& 1 = r6) (some (S5, some (.int r6)))
  else
    if a0 = (1 : Int32) then
      xbI (f7_in S a1 (0 : Int32) (2 : Int32)) fun S3 r4 =>
      xne (r4 &&& 1 = r4) (some (S3, some (.int r4)))
    else
      if a0 = (2 : Int32) then
        xbI (f7_in S a1 (4 : Int32) (32 : Int32)) fun S1 r2 =>
        if r2 = 0 then
          xne ((0 : Int32) &&& 1 = (0 : Int32)) (some (S1, some (.int (0 : Int32))))
        else
          xne ((1 : Int32) &&& 1 = (1 : Int32)) (some (S1, some (.int (1 : Int32))))
      else
        xne ((0 : Int32) &&& 1 = (0 : Int32)) (some (S, some (.int (0 : Int32))))
def f7_set (S : xSt)  (a1 : Int32) (a2 : Int32) : Option xR :=
  xbI (f7_isSetting S a1 a2) fun S1 r2 =>
  if r2 = 0 then
    some (S1, some (.int (-2 : Int32)))
  else
    xbV (f7_record S1) fun S3 =>
    xat a1 560 fun j4 =>
    xat a1 560 fun j5 =>
    xlet (xup S3 33 0 j5 a2) fun S6 =>
    xbV (f7_mend S6) fun S7 =>
    some (S7, some (.int (S3 33 0 j4)))
def f7_add_J75   (S : xSt) (i2 : Int32) : Option xR :=
  xat (3 : Int32) 560 fun j1 =>
  xat (3 : Int32) 560 fun j2 =>
  xlet (xup S 33 0 j2 ((S 33 0 j1) + i2)) fun S3 =>
  xbV (f7_mend S3) fun S4 =>
  xat (3 : Int32) 560 fun j5 =>
  some (S4, some (.int (S4 33 0 j5)))
def b7_add_L47   (k47 : xSt → Int32 → Int32 → Int32 → Option xR) (S : xSt) (i1 : Int32) (i2 : Int32) (i3 : Int32) : Option xR :=
  if i2 ≤ i3 then
    f7_add_J75 S i2
  else
    xat (3 : Int32) 560 fun j1 =>
    xat (((10 : Int32) + (S 33 0 j1)) + i3) 560 fun j2 =>
    xlet (xup S 33 0 j2 i1) fun S3 =>
    k47 S3 i1 i2 (i3 + (1 : Int32))
def f7_add_L47   : Nat → xSt → Int32 → Int32 → Int32 → Option xR
  | 0 => fun _ _ _ _ => none
  | n + 1 => b7_add_L47   (f7_add_L47   n)
def f7_add (S : xSt)  (a1 : Int32) (a2 : Int32) : Option xR :=
  xbI (f7_in S a1 (0 : Int32) (7 : Int32)) fun S1 r2 =>
  if r2 = 0 then
    some (S1, some (.int (-2 : Int32)))
  else
    xbI (f7_in S1 a2 (1 : Int32) (240 : Int32)) fun S3 r4 =>
    if r4 = 0 then
      some (S3, some (.int (-2 : Int32)))
    else
      xat (3 : Int32) 560 fun j5 =>
      if ((S3 33 0 j5) + a2) ≤ (240 : Int32) then
        xbV (f7_record S3) fun S6 =>
        f7_add_L47 xFU S6 a1 a2 (0 : Int32)
      else
        some (S3, some (.int (-4 : Int32)))
def f7_cut (S : xSt)  (a1 : Int32) : Option xR :=
  xbI (f7_in S a1 (1 : Int32) (240 : Int32)) fun S1 r2 =>
  if r2 = 0 then
    some (S1, some (.int (-2 : Int32)))
  else
    xat (3 : Int32) 560 fun j3 =>
    if a1 ≤ (S1 33 0 j3) then
      xbV (f7_record S1) fun S4 =>
      xat (3 : Int32) 560 fun j5 =>
      xat (3 : Int32) 560 fun j6 =>
      xlet (xup S4 33 0 j6 ((S4 33 0 j5) - a1)) fun S7 =>
      xbV (f7_mend S7) fun S8 =>
      xat (3 : Int32) 560 fun j9 =>
      some (S8, some (.int (S8 33 0 j9)))
    else
      some (S1, some (.int (-5 : Int32)))
def f7_beginBook_J68  (k8 : xSt → Int32 → Option xR) (S : xSt) (i1 : Int32) (k0 : Int32) (k1 : Int32) : Option xR :=
  xat k1 512 fun j1 =>
  xlet (xup S 41 0 j1 k0) fun S2 =>
  k8 S2 (i1 + (1 : Int32))
def f7_beginBook_J39  (k8 : xSt → Int32 → Option xR) (S : xSt) (i1 : Int32) (k0 : Int32) (k1 : Int32) : Option xR :=
  xat k1 512 fun j1 =>
  xlet (xup S 39 0 j1 k0) fun S2 =>
  xat i1 512 fun j3 =>
  xat i1 512 fun j4 =>
  xlet (xup S2 40 0 j4 (S2 39 0 j3)) fun S5 =>
  if (8 : Int32) ≤ i1 then
    f7_beginBook_J68 k8 S5 i1 (0 : Int32) i1
  else
    f7_beginBook_J68 k8 S5 i1 (1 : Int32) i1
def b7_beginBook_L8   (k8 : xSt → Int32 → Option xR) (S : xSt) (i1 : Int32) : Option xR :=
  if (10 : Int32) ≤ i1 then
    some (S, none)
  else
    xat i1 512 fun j1 =>
    xlet (xup S 38 0 j1 (-6 : Int32)) fun S2 =>
    if (8 : Int32) ≤ i1 then
      f7_beginBook_J39 k8 S2 i1 (-6 : Int32) i1
    else
      f7_beginBook_J39 k8 S2 i1 i1 i1
def f7_beginBook_L8   : Nat → xSt → Int32 → Option xR
  | 0 => fun _ _ => none
  | n + 1 => b7_beginBook_L8   (f7_beginBook_L8   n)
def f7_beginBook (S : xSt)   : Option xR :=
  xlet (xup S 7 0 11 (10 : Int32)) fun S1 =>
  f7_beginBook_L8 xFU S1 (0 : Int32)
def f7_enterPhrase (S : xSt)  (a1 : Int32) (a2 : Int32) : Option xR :=
  xat (S 7 0 11) 512 fun j1 =>
  xlet (xup S 38 0 j1 a1) fun S2 =>
  xat (S2 7 0 11) 512 fun j3 =>
  xlet (xup S2 39 0 j3 a2) fun S4 =>
  xat a1 512 fun j5 =>
  xat (S4 7 0 11) 512 fun j6 =>
  xlet (xup S4 40 0 j6 (S4 40 0 j5)) fun S7 =>
  xat a1 512 fun j8 =>
  xat (S7 7 0 11) 512 fun j9 =>
  xlet (xup S7 41 0 j9 ((S7 41 0 j8) + (1 : Int32))) fun S10 =>
  xlet (xup S10 7 0 11 ((S10 7 0 11) + (1 : Int32))) fun S11 =>
  some (S11, none)
def f7_longer_J33  (k3 : xSt → Int32 → Int32 → Int32 → Option xR) (S : xSt) (i1 : Int32) (i2 : Int32) (i3 : Int32) : Option xR :=
  k3 S i1 i2 (i3 + (1 : Int32))
def b7_longer_L3   (k3 : xSt → Int32 → Int32 → Int32 → Option xR) (S : xSt) (i1 : Int32) (i2 : Int32) (i3 : Int32) : Option xR :=
  if (S 7 0 11) ≤ i3 then
    some (S, some (.int (-6 : Int32)))
  else
    xat i3 512 fun j1 =>
    if (S 38 0 j1) = i1 then
      xat i3 512 fun j2 =>
      if (S 39 0 j2) = i2 then
        some (S, some (.int i3))
      else
        f7_longer_J33 k3 S i1 i2 i3
    else
      f7_longer_J33 k3 S i1 i2 i3
def f7_longer_L3   : Nat → xSt → Int32 → Int32 → Int32 → Option xR
  | 0 => fun _ _ _ _ => none
  | n + 1 => b7_longer_L3   (f7_longer_L3   n)
def f7_longer (S : xSt)  (a1 : Int32) (a2 : Int32) : Option xR :=
  f7_longer_L3 xFU S a1 a2 (10 : Int32)
def f7_writeCode_J21   (S : xSt) (i1 : Int32) (i2 : Int32) (i3 : Int32) (i4 : Int32) : Option xR :=
  xat (S 7 0 17) 300 fun j1 =>
  xlet (xup S 42 0 j1 i1) fun S2 =>
  xat (S2 7 0 17) 300 fun j3 =>
  xlet (xup S2 43 0 j3 i4) fun S4 =>
  xat (S4 7 0 17) 300 fun j5 =>
  xlet (xup S4 44 0 j5 i2) fun S6 =>
  xat (S6 7 0 17) 300 fun j7 =>
  xlet (xup S6 45 0 j7 i3) fun S8 =>
  xat (S8 7 0 17) 300 fun j9 =>
  xlet (xup S8 46 0 j9 (S8 7 0 11)) fun S10 =>
  xlet (xup S10 7 0 17 ((S10 7 0 17) + (1 : Int32))) fun S11 =>
  some (S11, none)
def b7_writeCode_L3   (k3 : xSt → Int32 → Int32 → Int32 → Int32 → Option xR) (S : xSt) (i1 : Int32) (i2 : Int32) (i3 : Int32) (i4 : Int32) : Option xR :=
  if (((S 7 0 11) - (1 : Int32)) >>> (i4 &&& 31)) ≤ 0 then
    f7_writeCode_J21 S i1 i2 i3 i4
  else
    k3 S i1 i2 i3 (i4 + (1 : Int32))
def f7_writeCode_L3   : Nat → xSt → Int32 → Int32 → Int32 → Int32 → Option xR
  | 0 => fun _ _ _ _ _ => none
  | n + 1 => b7_writeCode_L3   (f7_writeCode_L3   n)
def f7_writeCode (S : xSt)  (a1 : Int32) (a2 : Int32) (a3 : Int32) : Option xR :=
  f7_writeCode_L3 xFU S a1 a2 a3 (4 : Int32)
def b7_sumUpTo_L11   (k11 : xSt → Int32 → Int32 → Int32 → Option xR) (S : xSt) (i1 : Int32) (i2 : Int32) (i3 : Int32) : Option xR :=
  if i1 ≤ i3 then
    some (S, some (.int i2))
  else
    xat i3 300 fun j1 =>
    k11 S i1 (i2 + (S 45 0 j1)) (i3 + (1 : Int32))
def f7_sumUpTo_L11   : Nat → xSt → Int32 → Int32 → Int32 → Option xR
  | 0 => fun _ _ _ _ => none
  | n + 1 => b7_sumUpTo_L11   (f7_sumUpTo_L11   n)
def f7_sumUpTo (S : xSt)  (a1 : Int32) : Option xR :=
  xat (2 : Int32) 560 fun j1 =>
  f7_sumUpTo_L11 xFU S a1 (0 : Int32) (a1 - (S 33 0 j1))
def f7_write_J340   (S : xSt)  : Option xR :=
  xbV (f7_writeCode S (9 : Int32) (-6 : Int32) (0 : Int32)) fun S1 =>
  some (S1, none)
def f7_write_J337  (k24 : xSt → Int32 → Int32 → Int32 → Int32 → Option xR) (S : xSt) (i2 : Int32) (i3 : Int32) (i4 : Int32) (i5 : Int32) : Option xR :=
  k24 S i2 i3 i4 i5
def f7_write_J319  (k24 : xSt → Int32 → Int32 → Int32 → Int32 → Option xR) (S : xSt) (i2 : Int32) (i3 : Int32) (i4 : Int32) (i5 : Int32) (i9 : Int32) : Option xR :=
  if i9 = 0 then
    f7_write_J337 k24 S i2 i3 i4 i5
  else
    xbV (f7_writeCode S (8 : Int32) (-6 : Int32) (0 : Int32)) fun S1 =>
    xbV (f7_beginBook S1) fun S2 =>
    f7_write_J337 k24 S2 i2 i3 i4 i5
def f7_write_J317  (k24 : xSt → Int32 → Int32 → Int32 → Int32 → Option xR) (S : xSt) (i2 : Int32) (i3 : Int32) (i4 : Int32) (i5 : Int32) (k0 : Int32) : Option xR :=
  f7_write_J319 k24 S i2 i3 i4 i5 k0
def f7_write_J253  (k24 : xSt → Int32 → Int32 → Int32 → Int32 → Option xR) (S : xSt) (i2 : Int32) (i3 : Int32) (i4 : Int32) (i5 : Int32) (k0 : Int32) : Option xR :=
  if (S 7 0 11) = i3 then
    if i2 = (2 : Int32) then
      xat (2 : Int32) 560 fun j1 =>
      if ((S 7 0 17) - i5) < ((2 : Int32) * (S 33 0 j1)) then
        f7_write_J319 k24 S i2 i3 i4 i5 k0
      else
        xbI (f7_sumUpTo S (S 7 0 17)) fun S2 r3 =>
        xat (2 : Int32) 560 fun j4 =>
        xbI (f7_sumUpTo S2 ((S2 7 0 17) - (S2 33 0 j4))) fun S5 r6 =>
        if r6 ≤ r3 then
          f7_write_J317 k24 S5 i2 i3 i4 i5 (0 : Int32)
        else
          f7_write_J317 k24 S5 i2 i3 i4 i5 (1 : Int32)
    else
      f7_write_J319 k24 S i2 i3 i4 i5 k0
  else
    f7_write_J319 k24 S i2 i3 i4 i5 k0
def f7_write_J252  (k24 : xSt → Int32 → Int32 → Int32 → Int32 → Option xR) (S : xSt) (i2 : Int32) (i3 : Int32) (i4 : Int32) (i5 : Int32) : Option xR :=
  f7_write_J253 k24 S i2 i3 i4 i5 (0 : Int32)
def f7_write_J235  (k24 : xSt → Int32 → Int32 → Int32 → Int32 → Option xR) (S : xSt) (i2 : Int32) (i3 : Int32) (i4 : Int32) (i5 : Int32) : Option xR :=
  if (S 7 0 11) = i3 then
    if i2 = (1 : Int32) then
      f7_write_J253 k24 S i2 i3 i4 i5 (1 : Int32)
    else
      f7_write_J252 k24 S i2 i3 i4 i5
  else
    f7_write_J252 k24 S i2 i3 i4 i5
def f7_write_J226  (k24 : xSt → Int32 → Int32 → Int32 → Int32 → Option xR) (S : xSt) (i2 : Int32) (i3 : Int32) (i4 : Int32) (k0 : Int32) : Option xR :=
  xlet (xup S 7 0 18 k0) fun S1 =>
  f7_write_J235 k24 S1 i2 i3 i4 (S1 7 0 17)
def f7_write_J137  (k24 : xSt → Int32 → Int32 → Int32 → Int32 → Option xR) (S : xSt) (i2 : Int32) (i3 : Int32) (i4 : Int32) (i5 : Int32) (i6 : Int32) (i7 : Int32) : Option xR :=
  xbV (f7_writeCode S i6 i4 i7) fun S1 =>
  xat (3 : Int32) 560 fun j2 =>
  if (S1 33 0 j2) ≤ (i4 + i7) then
    f7_write_J337 k24 S1 i2 i3 (i4 + i7) i5
  else
    if i3 ≤ (S1 7 0 11) then
      f7_write_J235 k24 S1 i2 i3 (i4 + i7) i5
    else
      xat ((10 : Int32) + (i4 + i7)) 560 fun j3 =>
      xbV (f7_enterPhrase S1 i6 (S1 33 0 j3)) fun S4 =>
      xat ((S4 7 0 11) - (1 : Int32)) 512 fun j5 =>
      if (S4 41 0 j5) ≤ (S4 7 0 18) then
        f7_write_J226 k24 S4 i2 i3 (i4 + i7) (S4 7 0 18)
      else
        xat ((S4 7 0 11) - (1 : Int32)) 512 fun j6 =>
        f7_write_J226 k24 S4 i2 i3 (i4 + i7) (S4 41 0 j6)
def f7_write_J131  (k24 : xSt → Int32 → Int32 → Int32 → Int32 → Option xR) (k53 : xSt → Int32 → Int32 → Int32 → Int32 → Int32 → Int32 → Int32 → Option xR) (S : xSt) (i2 : Int32) (i3 : Int32) (i4 : Int32) (i5 : Int32) (i6 : Int32) (i8 : Int32) (k0 : Int32) (k1 : Int32) : Option xR :=
  k53 S i2 i3 i4 i5 i6 (k1 + k0) i8
def f7_write_J117  (k24 : xSt → Int32 → Int32 → Int32 → Int32 → Option xR) (k53 : xSt → Int32 → Int32 → Int32 → Int32 → Int32 → Int32 → Int32 → Option xR) (S : xSt) (i2 : Int32) (i3 : Int32) (i4 : Int32) (i5 : Int32) (i7 : Int32) (i8 : Int32) (k0 : Int32) : Option xR :=
  if i8 = 0 then
    f7_write_J131 k24 k53 S i2 i3 i4 i5 k0 i8 (0 : Int32) i7
  else
    f7_write_J131 k24 k53 S i2 i3 i4 i5 k0 i8 (1 : Int32) i7
def f7_write_J103  (k24 : xSt → Int32 → Int32 → Int32 → Int32 → Option xR) (k53 : xSt → Int32 → Int32 → Int32 → Int32 → Int32 → Int32 → Int32 → Option xR) (S : xSt) (i2 : Int32) (i3 : Int32) (i4 : Int32) (i5 : Int32) (i6 : Int32) (i7 : Int32) (i9 : Int32) (k0 : Int32) : Option xR :=
  if k0 = 0 then
    f7_write_J117 k24 k53 S i2 i3 i4 i5 i7 k0 i6
  else
    f7_write_J117 k24 k53 S i2 i3 i4 i5 i7 k0 i9
def b7_write_L53  (k24 : xSt → Int32 → Int32 → Int32 → Int32 → Option xR) (k53 : xSt → Int32 → Int32 → Int32 → Int32 → Int32 → Int32 → Int32 → Option xR) (S : xSt) (i2 : Int32) (i3 : Int32) (i4 : Int32) (i5 : Int32) (i6 : Int32) (i7 : Int32) (i8 : Int32) : Option xR :=
  if i8 = 0 then
    f7_write_J137 k24 S i2 i3 i4 i5 i6 i7
  else
    xat (3 : Int32) 560 fun j1 =>
    if (S 33 0 j1) ≤ (i4 + i7) then
      f7_write_J137 k24 S i2 i3 i4 i5 i6 i7
    else
      xat (((10 : Int32) + i4) + i7) 560 fun j2 =>
      xbI (f7_longer S i6 (S 33 0 j2)) fun S3 r4 =>
      if r4 < 0 then
        f7_write_J103 k24 k53 S3 i2 i3 i4 i5 i6 i7 r4 (0 : Int32)
      else
        f7_write_J103 k24 k53 S3 i2 i3 i4 i5 i6 i7 r4 (1 : Int32)
def f7_write_L53  (k24 : xSt → Int32 → Int32 → Int32 → Int32 → Option xR) : Nat → xSt → Int32 → Int32 → Int32 → Int32 → Int32 → Int32 → Int32 → Option xR
  | 0 => fun _ _ _ _ _ _ _ _ => none
  | n + 1 => b7_write_L53  k24 (f7_write_L53  k24 n)
def b7_write_L24   (k24 : xSt → Int32 → Int32 → Int32 → Int32 → Option xR) (S : xSt) (i2 : Int32) (i3 : Int32) (i4 : Int32) (i5 : Int32) : Option xR :=
  xat (3 : Int32) 560 fun j1 =>
  if (S 33 0 j1) ≤ i4 then
    f7_write_J340 S 
  else
    xat ((10 : Int32) + i4) 560 fun j2 =>
    f7_write_L53 k24 xFU S i2 i3 i4 i5 (S 33 0 j2) (1 : Int32) (1 : Int32)
def f7_write_L24   : Nat → xSt → Int32 → Int32 → Int32 → Int32 → Option xR
  | 0 => fun _ _ _ _ _ => none
  | n + 1 => b7_write_L24   (f7_write_L24   n)
def f7_write (S : xSt)  (a1 : Int32) (a2 : Int32) : Option xR :=
  xlet (xup S 7 0 17 (0 : Int32)) fun S1 =>
  xlet (xup S1 7 0 18 (0 : Int32)) fun S2 =>
  xbV (f7_beginBook S2) fun S3 =>
  f7_write_L24 xFU S3 a2 ((1 : Int32) <<< (a1 &&& 31)) (0 : Int32) (0 : Int32)
def f7_writeNow (S : xSt)   : Option xR :=
  xat (0 : Int32) 560 fun j1 =>
  xat (1 : Int32) 560 fun j2 =>
  xbV (f7_write S (S 33 0 j1) (S 33 0 j2)) fun S3 =>
  some (S3, none)
def b7_bits_L4   (k4 : xSt → Int32 → Int32 → Option xR) (S : xSt) (i1 : Int32) (i2 : Int32) : Option xR :=
  if (S 7 0 17) ≤ i2 then
    some (S, some (.int i1))
  else
    xat i2 300 fun j1 =>
    k4 S (i1 + (S 43 0 j1)) (i2 + (1 : Int32))
def f7_bits_L4   : Nat → xSt → Int32 → Int32 → Option xR
  | 0 => fun _ _ _ => none
  | n + 1 => b7_bits_L4   (f7_bits_L4   n)
def f7_bits (S : xSt)   : Option xR :=
  f7_bits_L4 xFU S (0 : Int32) (0 : Int32)
def f7_spoil (S : xSt)  (a1 : Int32) (a2 : Int32) : Option xR :=
  xbV (f7_writeNow S) fun S1 =>
  xbI (f7_in S1 a1 (0 : Int32) ((S1 7 0 17) - (1 : Int32))) fun S2 r3 =>
  if r3 = 0 then
    some (S2, some (.int (-1 : Int32)))
  else
    xbI (f7_in S2 a2 (1 : Int32) (511 : Int32)) fun S4 r5 =>
    if r5 = 0 then
      some (S4, some (.int (-2 : Int32)))
    else
      xbV (f7_record S4) fun S6 =>
      xat ((250 : Int32) + a1) 560 fun j7 =>
      xat ((250 : Int32) + a1) 560 fun j8 =>
      xlet (xup S6 33 0 j8 ((S6 33 0 j7) ^^^ a2)) fun S9 =>
      xat a1 300 fun j10 =>
      xat ((250 : Int32) + a1) 560 fun j11 =>
      some (S9, some (.int ((S9 42 0 j10) ^^^ (S9 33 0 j11))))
def f7_repeat_J81  (k10 : xSt → Int32 → Int32 → Int32 → Option xR) (S : xSt) (i2 : Int32) (i3 : Int32) (i4 : Int32) : Option xR :=
  k10 S i2 i3 (i4 + (1 : Int32))
def b7_repeat_L29  (k10 : xSt → Int32 → Int32 → Int32 → Option xR) (k29 : xSt → Int32 → Int32 → Int32 → Int32 → Option xR) (S : xSt) (i2 : Int32) (i3 : Int32) (i4 : Int32) (i5 : Int32) : Option xR :=
  if i3 ≤ i5 then
    f7_repeat_J81 k10 S i2 i3 i4
  else
    if (240 : Int32) < (S 7 0 20) then
      f7_repeat_J81 k10 S i2 i3 i4
    else
      xat ((S 7 0 20) - i3) 300 fun j1 =>
      xat (S 7 0 20) 300 fun j2 =>
      xlet (xup S 47 0 j2 (S 47 0 j1)) fun S3 =>
      xlet (xup S3 7 0 20 ((S3 7 0 20) + (1 : Int32))) fun S4 =>
      k29 S4 i2 i3 i4 (i5 + (1 : Int32))
def f7_repeat_L29  (k10 : xSt → Int32 → Int32 → Int32 → Option xR) : Nat → xSt → Int32 → Int32 → Int32 → Int32 → Option xR
  | 0 => fun _ _ _ _ _ => none
  | n + 1 => b7_repeat_L29  k10 (f7_repeat_L29  k10 n)
def b7_repeat_L10   (k10 : xSt → Int32 → Int32 → Int32 → Option xR) (S : xSt) (i2 : Int32) (i3 : Int32) (i4 : Int32) : Option xR :=
  if i2 ≤ i4 then
    some (S, none)
  else
    if (240 : Int32) < (S 7 0 20) then
      some (S, none)
    else
      f7_repeat_L29 k10 xFU S i2 i3 i4 (0 : Int32)
def f7_repeat_L10   : Nat → xSt → Int32 → Int32 → Int32 → Option xR
  | 0 => fun _ _ _ _ => none
  | n + 1 => b7_repeat_L10   (f7_repeat_L10   n)
def f7_repeat (S : xSt)  (a1 : Int32) (a2 : Int32) : Option xR :=
  f7_repeat_L10 xFU S a2 ((S 7 0 20) - a1) (1 : Int32)
def f7_readPad_J274   (S : xSt)  : Option xR :=
  some (S, some (.int (S 7 0 6)))
def f7_readPad_J266   (S : xSt) (i1 : Int32) (i3 : Int32) : Option xR :=
  if i3 = 0 then
    if i1 ≤ 0 then
      some (S, some (.int (-6 : Int32)))
    else
      f7_readPad_J274 S 
  else
    f7_readPad_J274 S 
def f7_readPad_J260  (k14 : xSt → Int32 → Int32 → Int32 → Int32 → Option xR) (S : xSt) (i1 : Int32) (i2 : Int32) (i3 : Int32) (i4 : Int32) : Option xR :=
  k14 S i1 i2 i3 (i4 + (1 : Int32))
def f7_readPad_J220  (k14 : xSt → Int32 → Int32 → Int32 → Int32 → Option xR) (S : xSt) (i1 : Int32) (i2 : Int32) (i3 : Int32) (i4 : Int32) (i5 : Int32) : Option xR :=
  if i5 = (41 : Int32) then
    if i1 ≤ 0 then
      some (S, some (.int i4))
    else
      if i3 = 0 then
        xat (i1 + (-1 : Int32)) 3 fun j1 =>
        xat (i1 + (-1 : Int32)) 3 fun j2 =>
        xbV (f7_repeat S (S 48 0 j1) (S 49 0 j2)) fun S3 =>
        f7_readPad_J260 k14 S3 (i1 + (-1 : Int32)) i2 i3 i4
      else
        some (S, some (.int i4))
  else
    some (S, some (.int i4))
def f7_readPad_J175  (k14 : xSt → Int32 → Int32 → Int32 → Int32 → Option xR) (S : xSt) (i1 : Int32) (i2 : Int32) (i3 : Int32) (i4 : Int32) (i5 : Int32) (i6 : Int32) (i7 : Int32) : Option xR :=
  if i5 = (40 : Int32) then
    if i6 = 0 then
      f7_readPad_J220 k14 S i1 i2 i3 i4 i5
    else
      if (3 : Int32) ≤ i1 then
        f7_readPad_J220 k14 S i1 i2 i3 i4 i5
      else
        xat i1 3 fun j1 =>
        xlet (xup S 48 0 j1 (S 7 0 20)) fun S2 =>
        xat i1 3 fun j3 =>
        xlet (xup S2 49 0 j3 i7) fun S4 =>
        f7_readPad_J260 k14 S4 (i1 + (1 : Int32)) (0 : Int32) (1 : Int32) i4
  else
    f7_readPad_J220 k14 S i1 i2 i3 i4 i5
def f7_readPad_J160  (k14 : xSt → Int32 → Int32 → Int32 → Int32 → Option xR) (S : xSt) (i1 : Int32) (i4 : Int32) (i7 : Int32) (i8 : Int32) : Option xR :=
  xbV (f7_repeat S i8 i7) fun S1 =>
  f7_readPad_J260 k14 S1 i1 (0 : Int32) (0 : Int32) i4
def f7_readPad_J54  (k14 : xSt → Int32 → Int32 → Int32 → Int32 → Option xR) (S : xSt) (i1 : Int32) (i2 : Int32) (i3 : Int32) (i4 : Int32) (i5 : Int32) (i6 : Int32) (k0 : Int32) : Option xR :=
  xbI (f7_in S i5 (48 : Int32) (57 : Int32)) fun S1 r2 =>
  if r2 = 0 then
    xbI (f7_in S1 i5 (97 : Int32) (104 : Int32)) fun S3 r4 =>
    if r4 = 0 then
      f7_readPad_J175 k14 S3 i1 i2 i3 i4 i5 i6 k0
    else
      if i6 = 0 then
        f7_readPad_J175 k14 S3 i1 i2 i3 i4 i5 i6 k0
      else
        if (240 : Int32) < (S3 7 0 20) then
          f7_readPad_J160 k14 S3 i1 i4 k0 (S3 7 0 20)
        else
          xat (S3 7 0 20) 300 fun j5 =>
          xlet (xup S3 47 0 j5 (i5 - (97 : Int32))) fun S6 =>
          xlet (xup S6 7 0 20 ((S6 7 0 20) + (1 : Int32))) fun S7 =>
          f7_readPad_J160 k14 S7 i1 i4 k0 (S3 7 0 20)
  else
    if ((((10 : Int32) * i2) + i5) - (48 : Int32)) = 0 then
      some (S1, some (.int i4))
    else
      if ((((10 : Int32) * i2) + i5) - (48 : Int32)) ≤ (60 : Int32) then
        f7_readPad_J260 k14 S1 i1 ((((10 : Int32) * i2) + i5) - (48 : Int32)) (1 : Int32) i4
      else
        some (S1, some (.int i4))
def f7_readPad_J42  (k14 : xSt → Int32 → Int32 → Int32 → Int32 → Option xR) (S : xSt) (i1 : Int32) (i2 : Int32) (i3 : Int32) (i4 : Int32) (i5 : Int32) (k0 : Int32) : Option xR :=
  if i2 ≤ (1 : Int32) then
    f7_readPad_J54 k14 S i1 i2 i3 i4 i5 k0 (1 : Int32)
  else
    f7_readPad_J54 k14 S i1 i2 i3 i4 i5 k0 i2
def b7_readPad_L14   (k14 : xSt → Int32 → Int32 → Int32 → Int32 → Option xR) (S : xSt) (i1 : Int32) (i2 : Int32) (i3 : Int32) (i4 : Int32) : Option xR :=
  if (S 7 0 6) ≤ i4 then
    f7_readPad_J266 S i1 i3
  else
    xat i4 80 fun j1 =>
    if i2 = (1 : Int32) then
      f7_readPad_J42 k14 S i1 i2 i3 i4 (S 37 0 j1) (0 : Int32)
    else
      f7_readPad_J42 k14 S i1 i2 i3 i4 (S 37 0 j1) (1 : Int32)
def f7_readPad_L14   : Nat → xSt → Int32 → Int32 → Int32 → Int32 → Option xR
  | 0 => fun _ _ _ _ _ => none
  | n + 1 => b7_readPad_L14   (f7_readPad_L14   n)
def f7_readPad (S : xSt)   : Option xR :=
  xlet (xup S 7 0 20 (0 : Int32)) fun S1 =>
  f7_readPad_L14 xFU S1 (0 : Int32) (0 : Int32) (1 : Int32) (0 : Int32)
def f7_put_J122   (S : xSt) (i3 : Int32) : Option xR :=
  xlet (xup S 7 0 6 ((S 7 0 6) + i3)) fun S1 =>
  some (S1, some (.int (S1 7 0 6)))
def b7_put_L85   (k85 : xSt → Int32 → Int64 → Int32 → Option xR) (S : xSt) (i3 : Int32) (i4 : Int64) (i6 : Int32) : Option xR :=
  if i6 < 0 then
    f7_put_J122 S i3
  else
    xat ((S 7 0 6) + i6) 80 fun j1 =>
    xlet (xup S 37 0 j1 ((i4 &&& (255 : Int64))).toInt32) fun S2 =>
    k85 S2 i3 (i4.toUInt64 >>> ((8 : Int32).toInt64.toUInt64 &&& Int64.toUInt64 63)).toInt64 (i6 + (-1 : Int32))
def f7_put_L85   : Nat → xSt → Int32 → Int64 → Int32 → Option xR
  | 0 => fun _ _ _ _ => none
  | n + 1 => b7_put_L85   (f7_put_L85   n)
def f7_put_J49   (S : xSt) (i1 : Int64) (i3 : Int32) (i4 : Int64) : Option xR :=
  if (lg_cmp i4 (0 : Int64)) = 0 then
    if i3 = 0 then
      some (S, some (.int (-2 : Int32)))
    else
      if ((S 7 0 6) + i3) ≤ (80 : Int32) then
        f7_put_L85 xFU S i3 i1 (i3 - (1 : Int32))
      else
        some (S, some (.int (-4 : Int32)))
  else
    some (S, some (.int (-2 : Int32)))
def b7_put_L5   (k5 : xSt → Int64 → Int32 → Int64 → Option xR) (S : xSt) (i1 : Int64) (i3 : Int32) (i4 : Int64) : Option xR :=
  if (lg_cmp (i4 &&& (255 : Int64)) (0 : Int64)) = 0 then
    f7_put_J49 S i1 i3 i4
  else
    xbI (f7_in S ((i4 &&& (255 : Int64))).toInt32 (33 : Int32) (126 : Int32)) fun S1 r2 =>
    if r2 = 0 then
      some (S1, some (.int (-2 : Int32)))
    else
      k5 S1 i1 (i3 + (1 : Int32)) (i4.toUInt64 >>> ((8 : Int32).toInt64.toUInt64 &&& Int64.toUInt64 63)).toInt64
def f7_put_L5   : Nat → xSt → Int64 → Int32 → Int64 → Option xR
  | 0 => fun _ _ _ _ => none
  | n + 1 => b7_put_L5   (f7_put_L5   n)
def f7_put (S : xSt)  (a1 : Int64) : Option xR :=
  f7_put_L5 xFU S a1 (0 : Int32) a1
def f7_wipe (S : xSt)   : Option xR :=
  xlet (xup S 7 0 6 (0 : Int32)) fun S1 =>
  some (S1, some (.int (S 7 0 6)))
def f7_fault (S : xSt)   : Option xR :=
  xbI (f7_readPad S) fun S1 r2 =>
  some (S1, some (.int r2))
def f7_load_J74   (S : xSt)  : Option xR :=
  xat (3 : Int32) 560 fun j1 =>
  xat (3 : Int32) 560 fun j2 =>
  xlet (xup S 33 0 j2 ((S 33 0 j1) + (S 7 0 20))) fun S3 =>
  xbV (f7_mend S3) fun S4 =>
  xlet (xup S4 7 0 6 (0 : Int32)) fun S5 =>
  xat (3 : Int32) 560 fun j6 =>
  some (S5, some (.int (S5 33 0 j6)))
def b7_load_L38   (k38 : xSt → Int32 → Option xR) (S : xSt) (i1 : Int32) : Option xR :=
  if (S 7 0 20) ≤ i1 then
    f7_load_J74 S 
  else
    xat (3 : Int32) 560 fun j1 =>
    xat i1 300 fun j2 =>
    xat (((10 : Int32) + (S 33 0 j1)) + i1) 560 fun j3 =>
    xlet (xup S 33 0 j3 (S 47 0 j2)) fun S4 =>
    k38 S4 (i1 + (1 : Int32))
def f7_load_L38   : Nat → xSt → Int32 → Option xR
  | 0 => fun _ _ => none
  | n + 1 => b7_load_L38   (f7_load_L38   n)
def f7_load (S : xSt)   : Option xR :=
  xbI (f7_readPad S) fun S1 r2 =>
  if r2 = (-6 : Int32) then
    xat (3 : Int32) 560 fun j3 =>
    if ((S1 33 0 j3) + (S1 7 0 20)) ≤ (240 : Int32) then
      xbV (f7_record S1) fun S4 =>
      f7_load_L38 xFU S4 (0 : Int32)
    else
      some (S1, some (.int (-4 : Int32)))
  else
    some (S1, some (.int (-3 : Int32)))
def f7_sign (S : xSt)  (a1 : Int32) : Option xR :=
  xat (3 : Int32) 560 fun j1 =>
  xbI (f7_in S a1 (0 : Int32) ((S 33 0 j1) - (1 : Int32))) fun S2 r3 =>
  if r3 = 0 then
    some (S2, some (.int (-1 : Int32)))
  else
    xat ((10 : Int32) + a1) 560 fun j4 =>
    some (S2, some (.int (S2 33 0 j4)))
def f7_ofCode (S : xSt)  (a1 : Int32) (a2 : Int32) : Option xR :=
  xbV (f7_writeNow S) fun S1 =>
  xbI (f7_in S1 a1 (0 : Int32) ((S1 7 0 17) - (1 : Int32))) fun S2 r3 =>
  if r3 = 0 then
    some (S2, some (.int (-1 : Int32)))
  else
    if a2.toInt < 0 ∨ 4 < a2.toInt then
      if a2 = (5 : Int32) then
        xat a1 300 fun j4 =>
        some (S2, some (.int (S2 46 0 j4)))
      else
        some (S2, some (.int (-2 : Int32)))
    else match (a2.toInt - 0).toNat with
    | 0 =>
      xat a1 300 fun j5 =>
      some (S2, some (.int (S2 42 0 j5)))
    | 1 =>
      xat a1 300 fun j6 =>
      xat ((250 : Int32) + a1) 560 fun j7 =>
      some (S2, some (.int ((S2 42 0 j6) ^^^ (S2 33 0 j7))))
    | 2 =>
      xat a1 300 fun j8 =>
      some (S2, some (.int (S2 43 0 j8)))
    | 3 =>
      xat a1 300 fun j9 =>
      some (S2, some (.int (S2 44 0 j9)))
    | 4 =>
      xat a1 300 fun j10 =>
      some (S2, some (.int (S2 45 0 j10)))
    | _ => none
def f7_clears_J29  (k4 : xSt → Int32 → Int32 → Option xR) (S : xSt) (i2 : Int32) (k0 : Int32) (k1 : Int32) : Option xR :=
  k4 S (k1 + k0) (i2 + (1 : Int32))
def b7_clears_L4   (k4 : xSt → Int32 → Int32 → Option xR) (S : xSt) (i1 : Int32) (i2 : Int32) : Option xR :=
  if (S 7 0 17) ≤ i2 then
    some (S, some (.int i1))
  else
    xat i2 300 fun j1 =>
    if (S 42 0 j1) = (8 : Int32) then
      f7_clears_J29 k4 S i2 (1 : Int32) i1
    else
      f7_clears_J29 k4 S i2 (0 : Int32) i1
def f7_clears_L4   : Nat → xSt → Int32 → Int32 → Option xR
  | 0 => fun _ _ _ => none
  | n + 1 => b7_clears_L4   (f7_clears_L4   n)
def f7_clears (S : xSt)   : Option xR :=
  f7_clears_L4 xFU S (0 : Int32) (0 : Int32)
def f7_spoiled_J28  (k6 : xSt → Int32 → Int32 → Option xR) (S : xSt) (i2 : Int32) (k0 : Int32) (k1 : Int32) : Option xR :=
  k6 S (k1 + k0) (i2 + (1 : Int32))
def b7_spoiled_L6   (k6 : xSt → Int32 → Int32 → Option xR) (S : xSt) (i1 : Int32) (i2 : Int32) : Option xR :=
  if (560 : Int32) ≤ i2 then
    some (S, some (.int i1))
  else
    xat i2 560 fun j1 =>
    if (S 33 0 j1) = 0 then
      f7_spoiled_J28 k6 S i2 (0 : Int32) i1
    else
      f7_spoiled_J28 k6 S i2 (1 : Int32) i1
def f7_spoiled_L6   : Nat → xSt → Int32 → Int32 → Option xR
  | 0 => fun _ _ _ => none
  | n + 1 => b7_spoiled_L6   (f7_spoiled_L6   n)
def f7_spoiled (S : xSt)   : Option xR :=
  f7_spoiled_L6 xFU S (0 : Int32) (250 : Int32)
def f7_count (S : xSt)  (a1 : Int32) : Option xR :=
  xbI (f7_in S a1 (9 : Int32) (11 : Int32)) fun S1 r2 =>
  if r2 = 0 then
    xbV (f7_writeNow S1) fun S3 =>
    if a1.toInt < 0 ∨ 7 < a1.toInt then
      if a1 = (8 : Int32) then
        some (S3, some (.int (S3 7 0 2)))
      else
        some (S3, some (.int (-2 : Int32)))
    else match (a1.toInt - 0).toNat with
    | 0 =>
      xat (3 : Int32) 560 fun j4 =>
      some (S3, some (.int (S3 33 0 j4)))
    | 1 =>
      some (S3, some (.int (S3 7 0 17)))
    | 2 =>
      xbI (f7_bits S3) fun S5 r6 =>
      some (S5, some (.int r6))
    | 3 =>
      xbI (f7_clears S3) fun S7 r8 =>
      some (S7, some (.int r8))
    | 4 =>
      some (S3, some (.int (S3 7 0 11)))
    | 5 =>
      some (S3, some (.int (S3 7 0 18)))
    | 6 =>
      xbI (f7_spoiled S3) fun S9 r10 =>
      some (S9, some (.int r10))
    | 7 =>
      some (S3, some (.int (S3 7 0 6)))
    | _ => none
  else
    xat (a1 - (9 : Int32)) 560 fun j11 =>
    some (S1, some (.int (S1 33 0 j11)))
def f7_entry (S : xSt)  (a1 : Int32) (a2 : Int32) : Option xR :=
  xbV (f7_writeNow S) fun S1 =>
  xbI (f7_in S1 a1 (0 : Int32) ((S1 7 0 11) - (1 : Int32))) fun S2 r3 =>
  if r3 = 0 then
    some (S2, some (.int (-1 : Int32)))
  else
    if a2 = 0 then
      xat a1 512 fun j6 =>
      some (S2, some (.int (S2 41 0 j6)))
    else
      if a2 = (1 : Int32) then
        xat a1 512 fun j5 =>
        some (S2, some (.int (S2 39 0 j5)))
      else
        if a2 = (2 : Int32) then
          xat a1 512 fun j4 =>
          some (S2, some (.int (S2 38 0 j4)))
        else
          some (S2, some (.int (-2 : Int32)))
def f7_say_J50   (S : xSt) (i1 : Int32) : Option xR :=
  xat i1 512 fun j1 =>
  xlet (xup S 7 0 24 ((S 7 0 24) + (S 41 0 j1))) fun S2 =>
  some (S2, none)
def b7_say_L16   (k16 : xSt → Int32 → Int32 → Int32 → Option xR) (S : xSt) (i1 : Int32) (i2 : Int32) (i3 : Int32) : Option xR :=
  if i3 < (S 7 0 24) then
    f7_say_J50 S i1
  else
    xat i2 512 fun j1 =>
    xat i3 48000 fun j2 =>
    xlet (xup S 50 0 j2 (vp_nar .byte ((S 39 0 j1)).toInt8.toInt32)) fun S3 =>
    xat i2 512 fun j4 =>
    k16 S3 i1 (S3 38 0 j4) (i3 + (-1 : Int32))
def f7_say_L16   : Nat → xSt → Int32 → Int32 → Int32 → Option xR
  | 0 => fun _ _ _ _ => none
  | n + 1 => b7_say_L16   (f7_say_L16   n)
def f7_say (S : xSt)  (a1 : Int32) : Option xR :=
  xat a1 512 fun j1 =>
  f7_say_L16 xFU S a1 a1 (((S 7 0 24) + (S 41 0 j1)) - (1 : Int32))
def f7_readCodes_J319   (S : xSt) (i4 : Int32) : Option xR :=
  if (S 7 0 26) = 0 then
    if i4 = 0 then
      xlet (xup S 7 0 25 (S 7 0 17)) fun S1 =>
      xlet (xup S1 7 0 26 (2 : Int32)) fun S2 =>
      some (S2, none)
    else
      some (S, none)
  else
    some (S, none)
def f7_readCodes_J313  (k43 : xSt → Int32 → Int32 → Int32 → Int32 → Int32 → Option xR) (S : xSt) (i1 : Int32) (i2 : Int32) (i3 : Int32) (i4 : Int32) (i5 : Int32) : Option xR :=
  k43 S i1 i2 i3 i4 (i5 + (1 : Int32))
def f7_readCodes_J286  (k43 : xSt → Int32 → Int32 → Int32 → Int32 → Int32 → Option xR) (S : xSt) (i1 : Int32) (i2 : Int32) (i4 : Int32) (i5 : Int32) (i6 : Int32) (k0 : Int32) (k1 : Int32) : Option xR :=
  xlet (xup S 7 0 27 (k1 + k0)) fun S1 =>
  xbV (f7_say S1 i6) fun S2 =>
  f7_readCodes_J313 k43 S2 i1 i2 i6 i4 i5
def f7_readCodes_J271  (k43 : xSt → Int32 → Int32 → Int32 → Int32 → Int32 → Option xR) (S : xSt) (i1 : Int32) (i2 : Int32) (i4 : Int32) (i5 : Int32) (i6 : Int32) (i8 : Int32) : Option xR :=
  if i8 = 0 then
    f7_readCodes_J286 k43 S i1 i2 i4 i5 i6 (0 : Int32) (S 7 0 27)
  else
    f7_readCodes_J286 k43 S i1 i2 i4 i5 i6 (1 : Int32) (S 7 0 27)
def f7_readCodes_J268  (k43 : xSt → Int32 → Int32 → Int32 → Int32 → Int32 → Option xR) (S : xSt) (i1 : Int32) (i2 : Int32) (i4 : Int32) (i5 : Int32) (i6 : Int32) (i8 : Int32) (k0 : Int32) (k1 : Int32) : Option xR :=
  xbV (f7_enterPhrase S k1 k0) fun S1 =>
  f7_readCodes_J271 k43 S1 i1 i2 i4 i5 i6 i8
def f7_readCodes_J233  (k43 : xSt → Int32 → Int32 → Int32 → Int32 → Int32 → Option xR) (S : xSt) (i1 : Int32) (i2 : Int32) (i3 : Int32) (i4 : Int32) (i5 : Int32) (i6 : Int32) (i8 : Int32) : Option xR :=
  if i3 < 0 then
    f7_readCodes_J271 k43 S i1 i2 i4 i5 i6 i8
  else
    if i2 ≤ (S 7 0 11) then
      f7_readCodes_J271 k43 S i1 i2 i4 i5 i6 i8
    else
      if i8 = 0 then
        xat i6 512 fun j1 =>
        f7_readCodes_J268 k43 S i1 i2 i4 i5 i6 i8 (S 40 0 j1) i3
      else
        xat i3 512 fun j2 =>
        f7_readCodes_J268 k43 S i1 i2 i4 i5 i6 i8 (S 40 0 j2) i3
def f7_readCodes_J172  (k43 : xSt → Int32 → Int32 → Int32 → Int32 → Int32 → Option xR) (S : xSt) (i1 : Int32) (i2 : Int32) (i3 : Int32) (i4 : Int32) (i5 : Int32) (i6 : Int32) (i7 : Int32) (k0 : Int32) : Option xR :=
  if i4 = 0 then
    if i6 = (9 : Int32) then
      f7_readCodes_J313 k43 S i1 i2 i3 (1 : Int32) i5
    else
      if i6 = (8 : Int32) then
        xbV (f7_beginBook S) fun S3 =>
        f7_readCodes_J313 k43 S3 i1 i2 (-6 : Int32) i4 i5
      else
        if i7 = 0 then
          if k0 = 0 then
            xlet (xup S 7 0 25 i5) fun S1 =>
            xlet (xup S1 7 0 26 (1 : Int32)) fun S2 =>
            f7_readCodes_J313 k43 S2 i1 i2 i3 i4 i5
          else
            f7_readCodes_J233 k43 S i1 i2 i3 i4 i5 i6 k0
        else
          f7_readCodes_J233 k43 S i1 i2 i3 i4 i5 i6 k0
  else
    xlet (xup S 7 0 25 i5) fun S4 =>
    xlet (xup S4 7 0 26 (3 : Int32)) fun S5 =>
    f7_readCodes_J313 k43 S5 i1 i2 i3 i4 i5
def f7_readCodes_J171  (k43 : xSt → Int32 → Int32 → Int32 → Int32 → Int32 → Option xR) (S : xSt) (i1 : Int32) (i2 : Int32) (i3 : Int32) (i4 : Int32) (i5 : Int32) (i6 : Int32) (i7 : Int32) : Option xR :=
  f7_readCodes_J172 k43 S i1 i2 i3 i4 i5 i6 i7 (0 : Int32)
def f7_readCodes_J144  (k43 : xSt → Int32 → Int32 → Int32 → Int32 → Int32 → Option xR) (S : xSt) (i1 : Int32) (i2 : Int32) (i3 : Int32) (i4 : Int32) (i5 : Int32) (i6 : Int32) (k0 : Int32) : Option xR :=
  if i6 = (S 7 0 11) then
    if i3 < 0 then
      f7_readCodes_J171 k43 S i1 i2 i3 i4 i5 i6 k0
    else
      if i2 ≤ (S 7 0 11) then
        f7_readCodes_J171 k43 S i1 i2 i3 i4 i5 i6 k0
      else
        f7_readCodes_J172 k43 S i1 i2 i3 i4 i5 i6 k0 (1 : Int32)
  else
    f7_readCodes_J171 k43 S i1 i2 i3 i4 i5 i6 k0
def f7_readCodes_J139  (k43 : xSt → Int32 → Int32 → Int32 → Int32 → Int32 → Option xR) (S : xSt) (i1 : Int32) (i2 : Int32) (i3 : Int32) (i4 : Int32) (i5 : Int32) (i6 : Int32) : Option xR :=
  f7_readCodes_J144 k43 S i1 i2 i3 i4 i5 i6 (1 : Int32)
def f7_readCodes_J110  (k43 : xSt → Int32 → Int32 → Int32 → Int32 → Int32 → Option xR) (S : xSt) (i1 : Int32) (i2 : Int32) (i3 : Int32) (i4 : Int32) (i5 : Int32) (k0 : Int32) : Option xR :=
  xbI (f7_in S k0 (0 : Int32) (7 : Int32)) fun S1 r2 =>
  if r2 = 0 then
    xbI (f7_in S1 k0 (10 : Int32) ((S1 7 0 11) - (1 : Int32))) fun S3 r4 =>
    if r4 = 0 then
      f7_readCodes_J144 k43 S3 i1 i2 i3 i4 i5 k0 (0 : Int32)
    else
      f7_readCodes_J139 k43 S3 i1 i2 i3 i4 i5 k0
  else
    f7_readCodes_J139 k43 S1 i1 i2 i3 i4 i5 k0
def b7_readCodes_L43   (k43 : xSt → Int32 → Int32 → Int32 → Int32 → Int32 → Option xR) (S : xSt) (i1 : Int32) (i2 : Int32) (i3 : Int32) (i4 : Int32) (i5 : Int32) : Option xR :=
  if (S 7 0 17) ≤ i5 then
    f7_readCodes_J319 S i4
  else
    if (S 7 0 26) = 0 then
      if 0 ≤ i1 then
        if i5 = i1 then
          xat i5 300 fun j2 =>
          f7_readCodes_J110 k43 S i1 i2 i3 i4 i5 ((S 42 0 j2) ^^^ (1 : Int32))
        else
          xat i5 300 fun j1 =>
          f7_readCodes_J110 k43 S i1 i2 i3 i4 i5 (S 42 0 j1)
      else
        xat i5 300 fun j3 =>
        xat ((250 : Int32) + i5) 560 fun j4 =>
        f7_readCodes_J110 k43 S i1 i2 i3 i4 i5 ((S 42 0 j3) ^^^ (S 33 0 j4))
    else
      f7_readCodes_J319 S i4
def f7_readCodes_L43   : Nat → xSt → Int32 → Int32 → Int32 → Int32 → Int32 → Option xR
  | 0 => fun _ _ _ _ _ _ => none
  | n + 1 => b7_readCodes_L43   (f7_readCodes_L43   n)
def f7_readCodes (S : xSt)  (a1 : Int32) : Option xR :=
  xat (0 : Int32) 560 fun j1 =>
  xlet (xup S 7 0 24 (0 : Int32)) fun S2 =>
  xlet (xup S2 7 0 25 (-6 : Int32)) fun S3 =>
  xlet (xup S3 7 0 26 (0 : Int32)) fun S4 =>
  xlet (xup S4 7 0 27 (0 : Int32)) fun S5 =>
  xbV (f7_beginBook S5) fun S6 =>
  f7_readCodes_L43 xFU S6 a1 ((1 : Int32) <<< ((S 33 0 j1) &&& 31)) (-6 : Int32) (0 : Int32) (0 : Int32)
def b7_alike_L2   (k2 : xSt → Int32 → Option xR) (S : xSt) (i1 : Int32) : Option xR :=
  if (S 7 0 24) ≤ i1 then
    some (S, some (.int i1))
  else
    xat (3 : Int32) 560 fun j1 =>
    if (S 33 0 j1) ≤ i1 then
      some (S, some (.int i1))
    else
      xat i1 48000 fun j2 =>
      xat ((10 : Int32) + i1) 560 fun j3 =>
      if (S 50 0 j2) = (S 33 0 j3) then
        k2 S (i1 + (1 : Int32))
      else
        some (S, some (.int i1))
def f7_alike_L2   : Nat → xSt → Int32 → Option xR
  | 0 => fun _ _ => none
  | n + 1 => b7_alike_L2   (f7_alike_L2   n)
def f7_alike (S : xSt)   : Option xR :=
  f7_alike_L2 xFU S (0 : Int32)
def f7_reading_J110   (S : xSt)  : Option xR :=
  xbI (f7_alike S) fun S1 r2 =>
  some (S1, some (.int r2))
def f7_reading (S : xSt)  (a1 : Int32) : Option xR :=
  xbI (f7_in S a1 (0 : Int32) (5 : Int32)) fun S1 r2 =>
  if r2 = 0 then
    some (S1, some (.int (-2 : Int32)))
  else
    xbV (f7_writeNow S1) fun S3 =>
    xbV (f7_readCodes S3 (-6 : Int32)) fun S4 =>
    if a1.toInt < 0 ∨ 4 < a1.toInt then
      xbI (f7_alike S4) fun S5 r6 =>
      if r6 = (S5 7 0 24) then
        xat (3 : Int32) 560 fun j7 =>
        if (S5 7 0 24) = (S5 33 0 j7) then
          some (S5, some (.int (-6 : Int32)))
        else
          f7_reading_J110 S5 
      else
        f7_reading_J110 S5 
    else match (a1.toInt - 0).toNat with
    | 0 =>
      some (S4, some (.int (S4 7 0 24)))
    | 1 =>
      some (S4, some (.int (S4 7 0 25)))
    | 2 =>
      some (S4, some (.int (S4 7 0 26)))
    | 3 =>
      some (S4, some (.int (S4 7 0 11)))
    | 4 =>
      some (S4, some (.int (S4 7 0 27)))
    | _ => none
def f7_read (S : xSt)  (a1 : Int32) : Option xR :=
  xbV (f7_writeNow S) fun S1 =>
  xbV (f7_readCodes S1 (-6 : Int32)) fun S2 =>
  xbI (f7_in S2 a1 (0 : Int32) ((S2 7 0 24) - (1 : Int32))) fun S3 r4 =>
  if r4 = 0 then
    some (S3, some (.int (-1 : Int32)))
  else
    xat a1 48000 fun j5 =>
    some (S3, some (.int (S3 50 0 j5)))
def f7_bitsWith (S : xSt)  (a1 : Int32) (a2 : Int32) : Option xR :=
  xbI (f7_in S a1 (4 : Int32) (9 : Int32)) fun S1 r2 =>
  if r2 = 0 then
    some (S1, some (.int (-2 : Int32)))
  else
    xbI (f7_in S1 a2 (0 : Int32) (2 : Int32)) fun S3 r4 =>
    if r4 = 0 then
      some (S3, some (.int (-2 : Int32)))
    else
      xbV (f7_write S3 a1 a2) fun S5 =>
      xbI (f7_bits S5) fun S6 r7 =>
      some (S6, some (.int r7))
def f7_best_J82   (S : xSt) (i1 : Int32) (i2 : Int32) (i3 : Int32) : Option xR :=
  if i1 = 0 then
    xne (¬ (10 : Int32) = 0) <|
    some (S, some (.int (i2 / (10 : Int32))))
  else
    if i1 = (1 : Int32) then
      xne (¬ (10 : Int32) = 0) <|
      some (S, some (.int (i2 - i2 / (10 : Int32) * (10 : Int32))))
    else
      some (S, some (.int i3))
def f7_best_J76  (k20 : xSt → Int32 → Int32 → Int32 → Int32 → Option xR) (S : xSt) (i1 : Int32) (i2 : Int32) (i3 : Int32) (i4 : Int32) : Option xR :=
  k20 S i1 i2 i3 (i4 + (1 : Int32))
def f7_best_J70  (k20 : xSt → Int32 → Int32 → Int32 → Int32 → Option xR) (k30 : xSt → Int32 → Int32 → Int32 → Int32 → Int32 → Option xR) (S : xSt) (i1 : Int32) (i2 : Int32) (i3 : Int32) (i4 : Int32) (i5 : Int32) : Option xR :=
  k30 S i1 i2 i3 i4 (i5 + (1 : Int32))
def f7_best_J56  (k20 : xSt → Int32 → Int32 → Int32 → Int32 → Option xR) (k30 : xSt → Int32 → Int32 → Int32 → Int32 → Int32 → Option xR) (S : xSt) (i1 : Int32) (i4 : Int32) (i5 : Int32) : Option xR :=
  xbI (f7_bits S) fun S1 r2 =>
  f7_best_J70 k20 k30 S1 i1 (((10 : Int32) * i4) + i5) r2 i4 i5
def b7_best_L30  (k20 : xSt → Int32 → Int32 → Int32 → Int32 → Option xR) (k30 : xSt → Int32 → Int32 → Int32 → Int32 → Int32 → Option xR) (S : xSt) (i1 : Int32) (i2 : Int32) (i3 : Int32) (i4 : Int32) (i5 : Int32) : Option xR :=
  if (3 : Int32) ≤ i5 then
    f7_best_J76 k20 S i1 i2 i3 i4
  else
    xbV (f7_write S i4 i5) fun S1 =>
    if i2 < 0 then
      f7_best_J56 k20 k30 S1 i1 i4 i5
    else
      xbI (f7_bits S1) fun S2 r3 =>
      if i3 ≤ r3 then
        f7_best_J70 k20 k30 S2 i1 i2 i3 i4 i5
      else
        f7_best_J56 k20 k30 S2 i1 i4 i5
def f7_best_L30  (k20 : xSt → Int32 → Int32 → Int32 → Int32 → Option xR) : Nat → xSt → Int32 → Int32 → Int32 → Int32 → Int32 → Option xR
  | 0 => fun _ _ _ _ _ _ => none
  | n + 1 => b7_best_L30  k20 (f7_best_L30  k20 n)
def b7_best_L20   (k20 : xSt → Int32 → Int32 → Int32 → Int32 → Option xR) (S : xSt) (i1 : Int32) (i2 : Int32) (i3 : Int32) (i4 : Int32) : Option xR :=
  if (10 : Int32) ≤ i4 then
    f7_best_J82 S i1 i2 i3
  else
    f7_best_L30 k20 xFU S i1 i2 i3 i4 (0 : Int32)
def f7_best_L20   : Nat → xSt → Int32 → Int32 → Int32 → Int32 → Option xR
  | 0 => fun _ _ _ _ _ => none
  | n + 1 => b7_best_L20   (f7_best_L20   n)
def f7_best (S : xSt)  (a1 : Int32) : Option xR :=
  xbI (f7_in S a1 (0 : Int32) (2 : Int32)) fun S1 r2 =>
  if r2 = 0 then
    some (S1, some (.int (-2 : Int32)))
  else
    f7_best_L20 xFU S1 a1 (-6 : Int32) (0 : Int32) (4 : Int32)
def f7_tenderest_J65   (S : xSt) (i1 : Int32) (i2 : Int32) (i3 : Int32) : Option xR :=
  if i1 = 0 then
    some (S, some (.int i2))
  else
    some (S, some (.int i3))
def f7_tenderest_J59  (k24 : xSt → Int32 → Int32 → Int32 → Int32 → Option xR) (S : xSt) (i1 : Int32) (i2 : Int32) (i3 : Int32) (i4 : Int32) : Option xR :=
  k24 S i1 i2 i3 (i4 + (1 : Int32))
def f7_tenderest_J51  (k24 : xSt → Int32 → Int32 → Int32 → Int32 → Option xR) (S : xSt) (i1 : Int32) (i4 : Int32) : Option xR :=
  xbI (f7_alike S) fun S1 r2 =>
  f7_tenderest_J59 k24 S1 i1 i4 r2 i4
def b7_tenderest_L24   (k24 : xSt → Int32 → Int32 → Int32 → Int32 → Option xR) (S : xSt) (i1 : Int32) (i2 : Int32) (i3 : Int32) (i4 : Int32) : Option xR :=
  if (S 7 0 17) ≤ i4 then
    f7_tenderest_J65 S i1 i2 i3
  else
    xbV (f7_readCodes S i4) fun S1 =>
    if i2 < 0 then
      f7_tenderest_J51 k24 S1 i1 i4
    else
      xbI (f7_alike S1) fun S2 r3 =>
      if i3 ≤ r3 then
        f7_tenderest_J59 k24 S2 i1 i2 i3 i4
      else
        f7_tenderest_J51 k24 S2 i1 i4
def f7_tenderest_L24   : Nat → xSt → Int32 → Int32 → Int32 → Int32 → Option xR
  | 0 => fun _ _ _ _ _ => none
  | n + 1 => b7_tenderest_L24   (f7_tenderest_L24   n)
def f7_tenderest (S : xSt)  (a1 : Int32) : Option xR :=
  xbI (f7_in S a1 (0 : Int32) (1 : Int32)) fun S1 r2 =>
  if r2 = 0 then
    some (S1, some (.int (-2 : Int32)))
  else
    xbV (f7_writeNow S1) fun S3 =>
    f7_tenderest_L24 xFU S3 a1 (-6 : Int32) (0 : Int32) (0 : Int32)
def f7_cheapest_J113   (S : xSt) (i1 : Int32) (i2 : Int32) (i3 : Int32) (i4 : Int32) (i5 : Int32) : Option xR :=
  xat (3 : Int32) 560 fun j1 =>
  xat (3 : Int32) 560 fun j2 =>
  xlet (xup S 33 0 j2 ((S 33 0 j1) - (1 : Int32))) fun S3 =>
  xat i2 560 fun j4 =>
  xlet (xup S3 33 0 j4 i3) fun S5 =>
  if i1 = 0 then
    some (S5, some (.int i4))
  else
    some (S5, some (.int i5))
def f7_cheapest_J107  (k64 : xSt → Int32 → Int32 → Int32 → Int32 → Int32 → Int32 → Option xR) (S : xSt) (i1 : Int32) (i2 : Int32) (i3 : Int32) (i4 : Int32) (i5 : Int32) (i6 : Int32) : Option xR :=
  k64 S i1 i2 i3 i4 i5 (i6 + (1 : Int32))
def f7_cheapest_J97  (k64 : xSt → Int32 → Int32 → Int32 → Int32 → Int32 → Int32 → Option xR) (S : xSt) (i1 : Int32) (i2 : Int32) (i3 : Int32) (i6 : Int32) : Option xR :=
  xbI (f7_bits S) fun S1 r2 =>
  f7_cheapest_J107 k64 S1 i1 i2 i3 i6 r2 i6
def b7_cheapest_L64   (k64 : xSt → Int32 → Int32 → Int32 → Int32 → Int32 → Int32 → Option xR) (S : xSt) (i1 : Int32) (i2 : Int32) (i3 : Int32) (i4 : Int32) (i5 : Int32) (i6 : Int32) : Option xR :=
  if (8 : Int32) ≤ i6 then
    f7_cheapest_J113 S i1 i2 i3 i4 i5
  else
    xat i2 560 fun j1 =>
    xlet (xup S 33 0 j1 i6) fun S2 =>
    xbV (f7_writeNow S2) fun S3 =>
    if i4 < 0 then
      f7_cheapest_J97 k64 S3 i1 i2 i3 i6
    else
      xbI (f7_bits S3) fun S4 r5 =>
      if i5 ≤ r5 then
        f7_cheapest_J107 k64 S4 i1 i2 i3 i4 i5 i6
      else
        f7_cheapest_J97 k64 S4 i1 i2 i3 i6
def f7_cheapest_L64   : Nat → xSt → Int32 → Int32 → Int32 → Int32 → Int32 → Int32 → Option xR
  | 0 => fun _ _ _ _ _ _ _ => none
  | n + 1 => b7_cheapest_L64   (f7_cheapest_L64   n)
def f7_cheapest (S : xSt)  (a1 : Int32) : Option xR :=
  xbI (f7_in S a1 (0 : Int32) (1 : Int32)) fun S1 r2 =>
  if r2 = 0 then
    some (S1, some (.int (-2 : Int32)))
  else
    xat (3 : Int32) 560 fun j3 =>
    if (S1 33 0 j3) = (240 : Int32) then
      some (S1, some (.int (-5 : Int32)))
    else
      xat (3 : Int32) 560 fun j4 =>
      xat ((10 : Int32) + (S1 33 0 j4)) 560 fun j5 =>
      xat (3 : Int32) 560 fun j6 =>
      xat (3 : Int32) 560 fun j7 =>
      xlet (xup S1 33 0 j7 ((S1 33 0 j6) + (1 : Int32))) fun S8 =>
      f7_cheapest_L64 xFU S8 a1 ((10 : Int32) + (S1 33 0 j4)) (S1 33 0 j5) (-6 : Int32) (0 : Int32) (0 : Int32)
def f7_undo_J56   (S : xSt)  : Option xR :=
  some (S, some (.int (S 7 0 2)))
def b7_undo_L22   (k22 : xSt → Int32 → Option xR) (S : xSt) (i1 : Int32) : Option xR :=
  if (560 : Int32) ≤ i1 then
    f7_undo_J56 S 
  else
    xat (((S 7 0 2) * (560 : Int32)) + i1) 3360 fun j1 =>
    xat i1 560 fun j2 =>
    xlet (xup S 33 0 j2 (S 34 0 j1)) fun S3 =>
    k22 S3 (i1 + (1 : Int32))
def f7_undo_L22   : Nat → xSt → Int32 → Option xR
  | 0 => fun _ _ => none
  | n + 1 => b7_undo_L22   (f7_undo_L22   n)
def f7_undo (S : xSt)   : Option xR :=
  if (S 7 0 2) = 0 then
    some (S, some (.int (-5 : Int32)))
  else
    xlet (xup S 7 0 2 ((S 7 0 2) - (1 : Int32))) fun S1 =>
    f7_undo_L22 xFU S1 (0 : Int32)
def f7_save_J45   (S : xSt) (i1 : Int32) : Option xR :=
  xat i1 2 fun j1 =>
  xlet (xup S 36 0 j1 (vp_nar .boolean (1 : Int32))) fun S2 =>
  xat (3 : Int32) 560 fun j3 =>
  some (S2, some (.int (S2 33 0 j3)))
def b7_save_L14   (k14 : xSt → Int32 → Int32 → Option xR) (S : xSt) (i1 : Int32) (i2 : Int32) : Option xR :=
  if (560 : Int32) ≤ i2 then
    f7_save_J45 S i1
  else
    xat i2 560 fun j1 =>
    xat ((i1 * (560 : Int32)) + i2) 1120 fun j2 =>
    xlet (xup S 35 0 j2 (S 33 0 j1)) fun S3 =>
    k14 S3 i1 (i2 + (1 : Int32))
def f7_save_L14   : Nat → xSt → Int32 → Int32 → Option xR
  | 0 => fun _ _ _ => none
  | n + 1 => b7_save_L14   (f7_save_L14   n)
def f7_save (S : xSt)  (a1 : Int32) : Option xR :=
  xbI (f7_in S a1 (0 : Int32) (1 : Int32)) fun S1 r2 =>
  if r2 = 0 then
    some (S1, some (.int (-2 : Int32)))
  else
    f7_save_L14 xFU S1 a1 (0 : Int32)
def f7_restore_J61   (S : xSt)  : Option xR :=
  xat (3 : Int32) 560 fun j1 =>
  some (S, some (.int (S 33 0 j1)))
def b7_restore_L30   (k30 : xSt → Int32 → Int32 → Option xR) (S : xSt) (i1 : Int32) (i2 : Int32) : Option xR :=
  if (560 : Int32) ≤ i2 then
    f7_restore_J61 S 
  else
    xat ((i1 * (560 : Int32)) + i2) 1120 fun j1 =>
    xat i2 560 fun j2 =>
    xlet (xup S 33 0 j2 (S 35 0 j1)) fun S3 =>
    k30 S3 i1 (i2 + (1 : Int32))
def f7_restore_L30   : Nat → xSt → Int32 → Int32 → Option xR
  | 0 => fun _ _ _ => none
  | n + 1 => b7_restore_L30   (f7_restore_L30   n)
def f7_restore (S : xSt)  (a1 : Int32) : Option xR :=
  xbI (f7_in S a1 (0 : Int32) (1 : Int32)) fun S1 r2 =>
  if r2 = 0 then
    some (S1, some (.int (-2 : Int32)))
  else
    xat a1 2 fun j3 =>
    if (S1 36 0 j3) = 0 then
      some (S1, some (.int (-5 : Int32)))
    else
      xbV (f7_record S1) fun S4 =>
      f7_restore_L30 xFU S4 a1 (0 : Int32)
