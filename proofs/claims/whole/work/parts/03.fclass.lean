def fX_requireElement_9 (N : Nat) (σ : St) : Option (Option Unit) :=
  some none
def fX_requireElement (N : Nat) (x0 : Int32) (x1 : Int32) (σ : St) : Option (Option Unit) :=
  if x0 < 0 then
    fX_requireElement_9 N σ
  else
    if x0 < x1 then
      some (some ())
    else
      fX_requireElement_9 N σ
def fX_requirePerson (N : Nat) (x1 : Int32) (σ : St) : Option (Option Unit) :=
  btO (fX_requireElement N x1 (σ.1 52 0 0 0) σ) fun _ =>
  some (some ())
def fX_outside_10 (N : Nat) (σ : St) : Option Int32 :=
  some 1
def fX_outside (N : Nat) (x0 : Int32) (x1 : Int32) (x2 : Int32) (σ : St) : Option Int32 :=
  if x0 < x1 then
    fX_outside_10 N σ
  else
    if x0 ≤ x2 then
      some 0
    else
      fX_outside_10 N σ
def fMath_min_I (N : Nat) (x0 : Int32) (x1 : Int32) (σ : St) : Option Int32 :=
  if x1 < x0 then
    some x1
  else
    some x0
def fMath_max_I (N : Nat) (x0 : Int32) (x1 : Int32) (σ : St) : Option Int32 :=
  if x0 < x1 then
    some x1
  else
    some x0
def fBooks_addRow_94 (N : Nat) (σ : St) : Option St :=
  nm (sI σ 21 0 0 0 ((σ.1 21 0 0 0) + 1)) fun (σ1 : St) =>
  some σ1
def fBooks_addRow_44 (N : Nat) : Nat → Int32 → Int32 → St → Option St
  | 0, _, _, _ => none
  | n+1, x3, x6, σ =>
    if x3 ≤ x6 then
      fBooks_addRow_94 N σ
    else
      if 600 ≤ x6 then
        fBooks_addRow_94 N σ
      else
        chk (inb x6 600) <|
        bn1 (fMath_min_I N 6 (σ.1 110 0 0 x6.toNatClampNeg) σ) fun r1 =>
        bn1 (fMath_max_I N 0 r1 σ) fun r2 =>
        chk (inb (((σ.1 21 0 0 0) * 52) + x6) 3120) <|
        nm (sI σ 16 0 0 (((σ.1 21 0 0 0) * 52) + x6).toNatClampNeg r2.toInt8.toInt32.toInt8.toInt32) fun (σ3 : St) =>
        (fBooks_addRow_44 N n) x3 (x6 + 1) σ3
def fBooks_addRow (N : Nat) (x1 : Int32) (x2 : Int32) (x3 : Int32) (x4 : Int32) (σ : St) : Option St :=
  chk (inb (σ.1 21 0 0 0) 60) <|
  nm (sI σ 17 0 0 (σ.1 21 0 0 0).toNatClampNeg x1) fun (σ1 : St) =>
  chk (inb (σ1.1 21 0 0 0) 60) <|
  nm (sI σ1 18 0 0 (σ1.1 21 0 0 0).toNatClampNeg x2) fun (σ2 : St) =>
  chk (inb (σ2.1 21 0 0 0) 60) <|
  nm (sI σ2 19 0 0 (σ2.1 21 0 0 0).toNatClampNeg x3) fun (σ3 : St) =>
  chk (inb (σ3.1 21 0 0 0) 60) <|
  nm (sI σ3 20 0 0 (σ3.1 21 0 0 0).toNatClampNeg x4) fun (σ4 : St) =>
  fBooks_addRow_44 N N x3 0 σ4
def fReader_clear (N : Nat) (σ : St) : Option St :=
  nm (sI σ 111 0 0 0 0) fun (σ1 : St) =>
  some σ1
def fLand_noteChange (N : Nat) (x1 : Int32) (σ : St) : Option St :=
  chk (inb x1 20) <|
  nm (sI σ 53 0 0 x1.toNatClampNeg ((σ.1 53 0 0 x1.toNatClampNeg) + 1)) fun (σ1 : St) =>
  some σ1
def fX_book_84 (N : Nat) (x1 : Int32) (σ : St) : Option ((Option Int32) × St) :=
  bn1 (fLand_noteChange N x1 σ) fun σ1 =>
  some ((some 1), σ1)
def fX_book (N : Nat) (x1 : Int32) (x2 : Int32) (x3 : Int32) (σ : St) : Option ((Option Int32) × St) :=
  btR (fX_requirePerson N x1 σ) σ fun _ =>
  bn1 (fX_outside N x2 0 2 σ) fun r1 =>
  if r1 = 0 then
    bn1 (fX_outside N x3 (-1) 52 σ) fun r2 =>
    if r2 = 0 then
      if x3 ≤ (σ.1 111 0 0 0) then
        if (σ.1 21 0 0 0) < 60 then
          bn1 (fBooks_addRow N x1 x2 x3 (σ.1 162 0 0 0) σ) fun σ3 =>
          if x3 = (-1) then
            fX_book_84 N x1 σ3
          else
            bn1 (fReader_clear N σ3) fun σ4 =>
            fX_book_84 N x1 σ4
        else
          some ((some 0), σ)
      else
        some ((some 0), σ)
    else
      some ((some 0), σ)
  else
    some ((some 0), σ)
def fBooks_addReturn (N : Nat) (x1 : Int32) (x2 : Int32) (x3 : Int32) (x4 : Int32) (σ : St) : Option St :=
  chk (inb (σ.1 26 0 0 0) 100) <|
  nm (sI σ 22 0 0 (σ.1 26 0 0 0).toNatClampNeg x1) fun (σ1 : St) =>
  chk (inb (σ1.1 26 0 0 0) 100) <|
  nm (sI σ1 23 0 0 (σ1.1 26 0 0 0).toNatClampNeg x2) fun (σ2 : St) =>
  chk (inb (σ2.1 26 0 0 0) 100) <|
  nm (sI σ2 24 0 0 (σ2.1 26 0 0 0).toNatClampNeg x3) fun (σ3 : St) =>
  chk (inb (σ3.1 26 0 0 0) 100) <|
  nm (sI σ3 25 0 0 (σ3.1 26 0 0 0).toNatClampNeg x4) fun (σ4 : St) =>
  nm (sI σ4 26 0 0 0 ((σ4.1 26 0 0 0) + 1)) fun (σ5 : St) =>
  some σ5
def fX_returns (N : Nat) (x1 : Int32) (x2 : Int32) (x3 : Int32) (σ : St) : Option ((Option Int32) × St) :=
  btR (fX_requirePerson N x1 σ) σ fun _ =>
  bn1 (fX_outside N x2 0 155 σ) fun r1 =>
  if r1 = 0 then
    bn1 (fX_outside N x3 (-1) 6 σ) fun r2 =>
    if r2 = 0 then
      if (σ.1 26 0 0 0) < 100 then
        bn1 (fBooks_addReturn N x1 x2 x3 (σ.1 162 0 0 0) σ) fun σ3 =>
        bn1 (fLand_noteChange N x1 σ3) fun σ4 =>
        some ((some 1), σ4)
      else
        some ((some 0), σ)
    else
      some ((some 0), σ)
  else
    some ((some 0), σ)
def fX_dayKnown (N : Nat) (σ : St) : Option Int32 :=
  if (σ.1 163 0 0 0) = (-1) then
    some (σ.1 162 0 0 0)
  else
    some (σ.1 163 0 0 0)
def fBooks_latestRow_8 (N : Nat) : Nat → Int32 → Int32 → Int32 → Int32 → St → Option Int32
  | 0, _, _, _, _, _ => none
  | n+1, x1, x2, x3, x4, σ =>
    if x4 < 0 then
      some (-1)
    else
      chk (inb x4 60) <|
      if (σ.1 17 0 0 x4.toNatClampNeg) = x1 then
        if (σ.1 18 0 0 x4.toNatClampNeg) = x2 then
          if x3 < (σ.1 20 0 0 x4.toNatClampNeg) then
            (fBooks_latestRow_8 N n) x1 x2 x3 (x4 + (-1)) σ
          else
            some x4
        else
          (fBooks_latestRow_8 N n) x1 x2 x3 (x4 + (-1)) σ
      else
        (fBooks_latestRow_8 N n) x1 x2 x3 (x4 + (-1)) σ
def fBooks_latestRow (N : Nat) (x1 : Int32) (x2 : Int32) (x3 : Int32) (σ : St) : Option Int32 :=
  nm (((σ.1 21 0 0 0) - 1)) fun (y1 : Int32) =>
  fBooks_latestRow_8 N N x1 x2 x3 y1 σ
def fBooks_stampsInRow_36 (N : Nat) (σ : St) : Option Int32 :=
  some (-1)
def fBooks_stampsInRow (N : Nat) (x1 : Int32) (x2 : Int32) (x3 : Int32) (σ : St) : Option Int32 :=
  bn1 (fBooks_latestRow N x1 (x2 / 52) x3 σ) fun r1 =>
  nm ((irem x2 52)) fun (y2 : Int32) =>
  if r1 = (-1) then
    fBooks_stampsInRow_36 N σ
  else
    chk (inb r1 60) <|
    if y2 < (σ.1 19 0 0 r1.toNatClampNeg) then
      chk (inb ((r1 * 52) + y2) 3120) <|
      some (σ.1 16 0 0 ((r1 * 52) + y2).toNatClampNeg)
    else
      fBooks_stampsInRow_36 N σ
def fBooks_daysReturned_8 (N : Nat) : Nat → Int32 → Int32 → Int32 → Int32 → St → Option Int32
  | 0, _, _, _, _, _ => none
  | n+1, x1, x2, x3, x4, σ =>
    if x4 < 0 then
      some (-1)
    else
      chk (inb x4 100) <|
      if (σ.1 22 0 0 x4.toNatClampNeg) = x1 then
        if (σ.1 23 0 0 x4.toNatClampNeg) = x2 then
          if x3 < (σ.1 25 0 0 x4.toNatClampNeg) then
            (fBooks_daysReturned_8 N n) x1 x2 x3 (x4 + (-1)) σ
          else
            some (σ.1 24 0 0 x4.toNatClampNeg)
        else
          (fBooks_daysReturned_8 N n) x1 x2 x3 (x4 + (-1)) σ
      else
        (fBooks_daysReturned_8 N n) x1 x2 x3 (x4 + (-1)) σ
def fBooks_daysReturned (N : Nat) (x1 : Int32) (x2 : Int32) (x3 : Int32) (σ : St) : Option Int32 :=
  nm (((σ.1 26 0 0 0) - 1)) fun (y1 : Int32) =>
  fBooks_daysReturned_8 N N x1 x2 x3 y1 σ
def fX_stamps_63 (N : Nat) (x4 : Int32) (σ : St) : Option (Option Int32) :=
  some (some x4)
def fX_stamps (N : Nat) (x1 : Int32) (x2 : Int32) (σ : St) : Option (Option Int32) :=
  btO (fX_requirePerson N x1 σ) fun _ =>
  btO (fX_requireElement N x2 156 σ) fun _ =>
  bn1 (fX_dayKnown N σ) fun r1 =>
  bn1 (fBooks_stampsInRow N x1 x2 r1 σ) fun r2 =>
  bn1 (fBooks_daysReturned N x1 x2 r1 σ) fun r3 =>
  if r2 = (-1) then
    some (some r3)
  else
    if r3 = (-1) then
      fX_stamps_63 N r2 σ
    else
      if r3 = r2 then
        fX_stamps_63 N r2 σ
      else
        some (some (10 + r2))
def fX_requireOnTape_15 (N : Nat) (σ : St) : Option (Option Unit) :=
  some none
def fX_requireOnTape (N : Nat) (x1 : Int32) (σ : St) : Option (Option Unit) :=
  if x1 < 0 then
    fX_requireOnTape_15 N σ
  else
    if x1 ≤ (σ.1 111 0 0 0) then
      some (some ())
    else
      fX_requireOnTape_15 N σ
def fArrays_fill_Act_params_5 (N : Nat) (k0_0 : Nat) : Nat → Int32 → Int32 → Int32 → St → Option St
  | 0, _, _, _, _ => none
  | n+1, x1, x2, x3, σ =>
    if x3 ≤ x2 then
      some σ
    else
      chk (inb x2 8) <|
      nm (sI σ 3 k0_0 0 x2.toNatClampNeg x1) fun (σ1 : St) =>
      (fArrays_fill_Act_params_5 N k0_0 n) x1 (x2 + 1) x3 σ1
def fArrays_fill_Act_params (N : Nat) (k0_0 : Nat) (x1 : Int32) (σ : St) : Option St :=
  fArrays_fill_Act_params_5 N k0_0 N x1 0 8 σ
def fAct_begin (N : Nat) (ka : Nat) (σ : St) : Option St :=
  nm (sI σ 2 ka 0 0 0) fun (σ1 : St) =>
  bn1 (fArrays_fill_Act_params N ka (-1) σ1) fun σ2 =>
  nm (sI σ2 4 ka 0 0 0) fun (σ3 : St) =>
  nm (sI σ3 5 ka 0 0 (-1)) fun (σ4 : St) =>
  nm (sI σ4 6 ka 0 0 (-1)) fun (σ5 : St) =>
  nm (sI σ5 7 ka 0 0 (-1)) fun (σ6 : St) =>
  nm (sI σ6 9 ka 0 0 0) fun (σ7 : St) =>
  nm (sI σ7 12 ka 0 0 0) fun (σ8 : St) =>
  some σ8
def fReader_isLetter (N : Nat) (x0 : Int32) (σ : St) : Option Int32 :=
  if x0 < 97 then
    some 0
  else
    if 122 < x0 then
      some 0
    else
      some 1
def fReader_isDigit (N : Nat) (x0 : Int32) (σ : St) : Option Int32 :=
  if x0 < 48 then
    some 0
  else
    if 57 < x0 then
      some 0
    else
      some 1
def fReader_isSignByte (N : Nat) (x0 : Int32) (σ : St) : Option Int32 :=
  if x0 = 40 then
    some 1
  else
  if x0 = 41 then
    some 1
  else
  if x0 = 42 then
    some 1
  else
  if x0 = 43 then
    some 1
  else
  if x0 = 44 then
    some 1
  else
  if x0 = 45 then
    some 1
  else
  if x0 = 46 then
    some 0
  else
  if x0 = 47 then
    some 1
  else
  if x0 = 48 then
    some 0
  else
  if x0 = 49 then
    some 0
  else
  if x0 = 50 then
    some 0
  else
  if x0 = 51 then
    some 0
  else
  if x0 = 52 then
    some 0
  else
  if x0 = 53 then
    some 0
  else
  if x0 = 54 then
    some 0
  else
  if x0 = 55 then
    some 0
  else
  if x0 = 56 then
    some 0
  else
  if x0 = 57 then
    some 0
  else
  if x0 = 58 then
    some 0
  else
  if x0 = 59 then
    some 1
  else
  if x0 = 60 then
    some 1
  else
  if x0 = 61 then
    some 1
  else
  some 0
def fReader_placeIn_66 (N : Nat) (ks1 : Nat) (go13 : Int32 → Int32 → Int32 → Int32 → St → Option Int32) (x2 : Int32) (x3 : Int32) (x5 : Int32) (s0 : Int32) (σ : St) : Option Int32 :=
  go13 x2 (x3 + 1) s0 (x5 + 1) σ
def fReader_placeIn_65 (N : Nat) (ks1 : Nat) (go13 : Int32 → Int32 → Int32 → Int32 → St → Option Int32) (x2 : Int32) (x3 : Int32) (x5 : Int32) (σ : St) : Option Int32 :=
  fReader_placeIn_66 N ks1 go13 x2 x3 x5 0 σ
def fReader_placeIn_89 (N : Nat) (ks1 : Nat) (go13 : Int32 → Int32 → Int32 → Int32 → St → Option Int32) (x2 : Int32) (x5 : Int32) (σ : St) : Option Int32 :=
  nm ((σ.1 115 0 0 0)) fun (y1 : Int32) =>
  go13 (x2 + 1) y1 1 (x5 + 1) σ
def fReader_placeIn_13 (N : Nat) (ks1 : Nat) : Nat → Int32 → Int32 → Int32 → Int32 → St → Option Int32
  | 0, _, _, _, _, _ => none
  | n+1, x2, x3, x4, x5, σ =>
    if (slen ks1) ≤ x5 then
      some (-1)
    else
      chk (inb x5 (slenN ks1)) <|
      if (schr ks1 x5.toNatClampNeg) = 32 then
        if x4 = 0 then
          fReader_placeIn_89 N ks1 (fReader_placeIn_13 N ks1 n) x2 x5 σ
        else
          if x3 = (σ.1 116 0 0 0) then
            some x2
          else
            fReader_placeIn_89 N ks1 (fReader_placeIn_13 N ks1 n) x2 x5 σ
      else
        if x4 = 0 then
          fReader_placeIn_65 N ks1 (fReader_placeIn_13 N ks1 n) x2 x3 x5 σ
        else
          if (σ.1 116 0 0 0) ≤ x3 then
            fReader_placeIn_65 N ks1 (fReader_placeIn_13 N ks1 n) x2 x3 x5 σ
          else
            chk (inb x3 600) <|
            if (σ.1 110 0 0 x3.toNatClampNeg) = (schr ks1 x5.toNatClampNeg) then
              fReader_placeIn_66 N ks1 (fReader_placeIn_13 N ks1 n) x2 x3 x5 1 σ
            else
              fReader_placeIn_65 N ks1 (fReader_placeIn_13 N ks1 n) x2 x3 x5 σ
def fReader_placeIn (N : Nat) (ks1 : Nat) (σ : St) : Option Int32 :=
  nm ((σ.1 115 0 0 0)) fun (y1 : Int32) =>
  fReader_placeIn_13 N ks1 N 0 y1 1 0 σ
def fReader_advance_39 (N : Nat) (go0 : St → Option St) (σ : St) : Option St :=
  nm (sI σ 116 0 0 0 ((σ.1 116 0 0 0) + 1)) fun (σ1 : St) =>
  go0 σ1
def fReader_advance_174 (N : Nat) (s1 : Int32) (σ : St) : Option St :=
  nm (sI σ 119 0 0 0 s1) fun (σ1 : St) =>
  some σ1
def fReader_advance_138 (N : Nat) (σ : St) : Option St :=
  bn1 (fReader_placeIn N 20 σ) fun r1 =>
  nm (sI σ 118 0 0 0 r1) fun (σ2 : St) =>
  bn1 (fReader_placeIn N 21 σ2) fun r3 =>
  if r3 = (-1) then
    bn1 (fReader_placeIn N 22 σ2) fun r4 =>
    fReader_advance_174 N r4 σ2
  else
    fReader_advance_174 N (8 + r3) σ2
def fReader_advance_99 (N : Nat) : Nat → St → Option St
  | 0, _ => none
  | n+1, σ =>
    if (σ.1 114 0 0 0) ≤ (σ.1 116 0 0 0) then
      fReader_advance_138 N σ
    else
      chk (inb (σ.1 116 0 0 0) 600) <|
      bn1 (fReader_isLetter N (σ.1 110 0 0 (σ.1 116 0 0 0).toNatClampNeg) σ) fun r1 =>
      if r1 = 0 then
        fReader_advance_138 N σ
      else
        nm (sI σ 116 0 0 0 ((σ.1 116 0 0 0) + 1)) fun (σ2 : St) =>
        (fReader_advance_99 N n) σ2
def fReader_advance_270 (N : Nat) (go205 : St → Option St) (s1 : Int32) (σ : St) : Option St :=
  nm (sI σ 120 0 0 0 s1) fun (σ1 : St) =>
  nm (sI σ1 116 0 0 0 ((σ1.1 116 0 0 0) + 1)) fun (σ2 : St) =>
  go205 σ2
def fReader_advance_205 (N : Nat) : Nat → St → Option St
  | 0, _ => none
  | n+1, σ =>
    if (σ.1 114 0 0 0) ≤ (σ.1 116 0 0 0) then
      some σ
    else
      chk (inb (σ.1 116 0 0 0) 600) <|
      bn1 (fReader_isDigit N (σ.1 110 0 0 (σ.1 116 0 0 0).toNatClampNeg) σ) fun r1 =>
      if r1 = 0 then
        some σ
      else
        if 5 ≤ ((σ.1 116 0 0 0) - (σ.1 115 0 0 0)) then
          fReader_advance_270 N (fReader_advance_205 N n) 100000 σ
        else
          fReader_advance_270 N (fReader_advance_205 N n) ((((σ.1 120 0 0 0) * 10) + (σ.1 110 0 0 (σ.1 116 0 0 0).toNatClampNeg)) - 48) σ
def fReader_advance_315 (N : Nat) (s1 : Int32) (σ : St) : Option St :=
  nm (sI σ 117 0 0 0 s1) fun (σ1 : St) =>
  nm (sI σ1 116 0 0 0 ((σ1.1 116 0 0 0) + 1)) fun (σ2 : St) =>
  some σ2
def fReader_advance_52 (N : Nat) (σ : St) : Option St :=
  nm (sI σ 115 0 0 0 (σ.1 116 0 0 0)) fun (σ1 : St) =>
  if (σ1.1 116 0 0 0) < (σ1.1 114 0 0 0) then
    chk (inb (σ1.1 116 0 0 0) 600) <|
    bn1 (fReader_isLetter N (σ1.1 110 0 0 (σ1.1 116 0 0 0).toNatClampNeg) σ1) fun r2 =>
    if r2 = 0 then
      bn1 (fReader_isDigit N (σ1.1 110 0 0 (σ1.1 116 0 0 0).toNatClampNeg) σ1) fun r3 =>
      if r3 = 0 then
        bn1 (fReader_isSignByte N (σ1.1 110 0 0 (σ1.1 116 0 0 0).toNatClampNeg) σ1) fun r4 =>
        if r4 = 0 then
          fReader_advance_315 N 3 σ1
        else
          fReader_advance_315 N (σ1.1 110 0 0 (σ1.1 116 0 0 0).toNatClampNeg) σ1
      else
        nm (sI σ1 117 0 0 0 2) fun (σ5 : St) =>
        nm (sI σ5 120 0 0 0 0) fun (σ6 : St) =>
        fReader_advance_205 N N σ6
    else
      nm (sI σ1 117 0 0 0 1) fun (σ7 : St) =>
      fReader_advance_99 N N σ7
  else
    nm (sI σ1 117 0 0 0 0) fun (σ8 : St) =>
    some σ8
def fReader_advance_0 (N : Nat) : Nat → St → Option St
  | 0, _ => none
  | n+1, σ =>
    if (σ.1 114 0 0 0) ≤ (σ.1 116 0 0 0) then
      fReader_advance_52 N σ
    else
      chk (inb (σ.1 116 0 0 0) 600) <|
      if (σ.1 110 0 0 (σ.1 116 0 0 0).toNatClampNeg) = 32 then
        fReader_advance_39 N (fReader_advance_0 N n) σ
      else
        if (σ.1 110 0 0 (σ.1 116 0 0 0).toNatClampNeg) = 10 then
          fReader_advance_39 N (fReader_advance_0 N n) σ
        else
          fReader_advance_52 N σ
def fReader_advance (N : Nat) (σ : St) : Option St :=
  fReader_advance_0 N N σ
def fReader_fail (N : Nat) (x1 : Int32) (σ : St) : Option St :=
  if (σ.1 113 0 0 0) = 0 then
    nm (sI σ 113 0 0 0 x1) fun (σ1 : St) =>
    nm (sI σ1 112 0 0 0 (σ1.1 115 0 0 0)) fun (σ2 : St) =>
    some σ2
  else
    some σ
def fReader_readTrade (N : Nat) (x1 : Int32) (σ : St) : Option (Int32 × St) :=
  if (σ.1 117 0 0 0) = 2 then
    if (σ.1 120 0 0 0) < 8 then
      if (x1 &&& (1 <<< ((σ.1 120 0 0 0) &&& 31))) = 0 then
        nm ((σ.1 120 0 0 0)) fun (y1 : Int32) =>
        bn1 (fReader_advance N σ) fun σ2 =>
        some ((x1 ||| (1 <<< (y1 &&& 31))), σ2)
      else
        bn1 (fReader_fail N 4 σ) fun σ3 =>
        some (x1, σ3)
    else
      bn1 (fReader_fail N 2 σ) fun σ4 =>
      some (x1, σ4)
  else
    bn1 (fReader_fail N 1 σ) fun σ5 =>
    some (x1, σ5)
def fReader_readInsured_46 (N : Nat) (x1 : Int32) (σ : St) : Option St :=
  chk (inb (σ.1 121 0 0 0) 17) <|
  nm (sI σ 4 ((σ.1 121 0 0 0).toNatClampNeg) 0 0 x1) fun (σ1 : St) =>
  some σ1
def fReader_readInsured_8 (N : Nat) : Nat → Int32 → Int32 → St → Option St
  | 0, _, _, _ => none
  | n+1, x1, x2, σ =>
    if 8 ≤ x2 then
      fReader_readInsured_46 N x1 σ
    else
      if (σ.1 113 0 0 0) = 0 then
        if (σ.1 117 0 0 0) = 44 then
          bn1 (fReader_advance N σ) fun σ1 =>
          bnd (fReader_readTrade N x1 σ1) fun r2 σ3 =>
          (fReader_readInsured_8 N n) r2 (x2 + 1) σ3
        else
          fReader_readInsured_46 N x1 σ
      else
        fReader_readInsured_46 N x1 σ
def fReader_readInsured (N : Nat) (σ : St) : Option St :=
  bnd (fReader_readTrade N 0 σ) fun r1 σ2 =>
  fReader_readInsured_8 N N r1 0 σ2
def fReader_readNumber (N : Nat) (σ : St) : Option (Int32 × St) :=
  nm ((σ.1 120 0 0 0)) fun (y1 : Int32) =>
  if (σ.1 117 0 0 0) = 2 then
    if y1 < 100000 then
      bn1 (fReader_advance N σ) fun σ2 =>
      some (y1, σ2)
    else
      bn1 (fReader_fail N 2 σ) fun σ3 =>
      some (y1, σ3)
  else
    bn1 (fReader_fail N 1 σ) fun σ4 =>
    some (y1, σ4)
def fReader_readParam_31 (N : Nat) (σ : St) : Option St :=
  bn1 (fReader_fail N 3 σ) fun σ1 =>
  some σ1
def fReader_readParam (N : Nat) (σ : St) : Option St :=
  nm ((σ.1 119 0 0 0)) fun (y1 : Int32) =>
  if (σ.1 117 0 0 0) = 1 then
    if y1 < 0 then
      fReader_readParam_31 N σ
    else
      if y1 < 8 then
        bn1 (fReader_advance N σ) fun σ2 =>
        chk (inb (σ2.1 121 0 0 0) 17) <|
        bnd (fReader_readNumber N σ2) fun r3 σ4 =>
        chk (inb y1 8) <|
        nm (sI σ4 3 ((σ2.1 121 0 0 0).toNatClampNeg) 0 y1.toNatClampNeg r3) fun (σ5 : St) =>
        some σ5
      else
        fReader_readParam_31 N σ
  else
    bn1 (fReader_fail N 1 σ) fun σ6 =>
    some σ6
def fReader_isWord (N : Nat) (x1 : Int32) (σ : St) : Option Int32 :=
  if (σ.1 113 0 0 0) = 0 then
    if (σ.1 117 0 0 0) = 1 then
      if (σ.1 118 0 0 0) = x1 then
        some 1
      else
        some 0
    else
      some 0
  else
    some 0
def fReader_isSign (N : Nat) (x1 : Int32) (σ : St) : Option Int32 :=
  if (σ.1 113 0 0 0) = 0 then
    if (σ.1 117 0 0 0) = x1 then
      some 1
    else
      some 0
  else
    some 0
def fReader_expect (N : Nat) (x1 : Int32) (σ : St) : Option St :=
  bn1 (fReader_isSign N x1 σ) fun r1 =>
  if r1 = 0 then
    bn1 (fReader_fail N 1 σ) fun σ2 =>
    some σ2
  else
    bn1 (fReader_advance N σ) fun σ3 =>
    some σ3
def fAct_emit (N : Nat) (ka : Nat) (x1 : Int32) (σ : St) : Option St :=
  if 600 ≤ (σ.1 2 ka 0 0) then
    some σ
  else
    chk (inb (σ.1 2 ka 0 0) 600) <|
    nm (sI σ 1 ka 0 (σ.1 2 ka 0 0).toNatClampNeg x1) fun (σ1 : St) =>
    nm (sI σ1 2 ka 0 0 ((σ1.1 2 ka 0 0) + 1)) fun (σ2 : St) =>
    some σ2
def fReader_readPart (N : Nat) (rec : Int32 → St → Option St) (x1 : Int32) (σ : St) : Option St :=
  if (σ.1 113 0 0 0) = 0 then
    if (σ.1 117 0 0 0) = 40 then
      bn1 (fReader_advance N σ) fun σ7 =>
      bn1 (rec (x1 + 1) σ7) fun σ8 =>
      bn1 (fReader_expect N 41 σ8) fun σ9 =>
      some σ9
    else
      if (σ.1 117 0 0 0) = 1 then
        if (σ.1 119 0 0 0) = (-1) then
          bn1 (fReader_fail N 3 σ) fun σ3 =>
          some σ3
        else
          chk (inb (σ.1 121 0 0 0) 17) <|
          bn1 (fAct_emit N ((σ.1 121 0 0 0).toNatClampNeg) (100000 + (σ.1 119 0 0 0)) σ) fun σ1 =>
          bn1 (fReader_advance N σ1) fun σ2 =>
          some σ2
      else
        chk (inb (σ.1 121 0 0 0) 17) <|
        bnd (fReader_readNumber N σ) fun r4 σ5 =>
        bn1 (fAct_emit N ((σ.1 121 0 0 0).toNatClampNeg) r4 σ5) fun σ6 =>
        some σ6
  else
    some σ
def fReader_readProduct_32 (N : Nat) (rec : Int32 → St → Option St) (go7 : Int32 → Int32 → St → Option St) (x1 : Int32) (x2 : Int32) (σ : St) : Option St :=
  nm ((σ.1 117 0 0 0)) fun (y1 : Int32) =>
  bn1 (fReader_advance N σ) fun σ2 =>
  bn1 (fReader_readPart N rec x1 σ2) fun σ3 =>
  chk (inb (σ3.1 121 0 0 0) 17) <|
  bn1 (fAct_emit N ((σ3.1 121 0 0 0).toNatClampNeg) (-y1) σ3) fun σ4 =>
  go7 x1 (x2 + 1) σ4
def fReader_readProduct_7 (N : Nat) (rec : Int32 → St → Option St) : Nat → Int32 → Int32 → St → Option St
  | 0, _, _, _ => none
  | n+1, x1, x2, σ =>
    if 600 ≤ x2 then
      some σ
    else
      bn1 (fReader_isSign N 42 σ) fun r1 =>
      if r1 = 0 then
        bn1 (fReader_isSign N 47 σ) fun r2 =>
        if r2 = 0 then
          some σ
        else
          fReader_readProduct_32 N rec (fReader_readProduct_7 N rec n) x1 x2 σ
      else
        fReader_readProduct_32 N rec (fReader_readProduct_7 N rec n) x1 x2 σ
def fReader_readProduct (N : Nat) (rec : Int32 → St → Option St) (x1 : Int32) (σ : St) : Option St :=
  bn1 (fReader_readPart N rec x1 σ) fun σ1 =>
  fReader_readProduct_7 N rec N x1 0 σ1
def fReader_readSum_32 (N : Nat) (rec : Int32 → St → Option St) (go7 : Int32 → Int32 → St → Option St) (x1 : Int32) (x2 : Int32) (σ : St) : Option St :=
  nm ((σ.1 117 0 0 0)) fun (y1 : Int32) =>
  bn1 (fReader_advance N σ) fun σ2 =>
  bn1 (fReader_readProduct N rec x1 σ2) fun σ3 =>
  chk (inb (σ3.1 121 0 0 0) 17) <|
  bn1 (fAct_emit N ((σ3.1 121 0 0 0).toNatClampNeg) (-y1) σ3) fun σ4 =>
  go7 x1 (x2 + 1) σ4
def fReader_readSum_7 (N : Nat) (rec : Int32 → St → Option St) : Nat → Int32 → Int32 → St → Option St
  | 0, _, _, _ => none
  | n+1, x1, x2, σ =>
    if 600 ≤ x2 then
      some σ
    else
      bn1 (fReader_isSign N 43 σ) fun r1 =>
      if r1 = 0 then
        bn1 (fReader_isSign N 45 σ) fun r2 =>
        if r2 = 0 then
          some σ
        else
          fReader_readSum_32 N rec (fReader_readSum_7 N rec n) x1 x2 σ
      else
        fReader_readSum_32 N rec (fReader_readSum_7 N rec n) x1 x2 σ
def fReader_readSum (N : Nat) (rec : Int32 → St → Option St) (x1 : Int32) (σ : St) : Option St :=
  bn1 (fReader_readProduct N rec x1 σ) fun σ1 =>
  fReader_readSum_7 N rec N x1 0 σ1
def fReader_readTest_28 (N : Nat) (rec : Int32 → St → Option St) (x1 : Int32) (x2 : Int32) (σ : St) : Option St :=
  bn1 (fReader_advance N σ) fun σ1 =>
  bn1 (fReader_readSum N rec x1 σ1) fun σ2 =>
  chk (inb (σ2.1 121 0 0 0) 17) <|
  bn1 (fAct_emit N ((σ2.1 121 0 0 0).toNatClampNeg) (-x2) σ2) fun σ3 =>
  some σ3
def fReader_readTest (N : Nat) (rec : Int32 → St → Option St) (x1 : Int32) (σ : St) : Option St :=
  bn1 (fReader_readSum N rec x1 σ) fun σ1 =>
  nm ((σ1.1 117 0 0 0)) fun (y2 : Int32) =>
  bn1 (fReader_isSign N 60 σ1) fun r3 =>
  if r3 = 0 then
    bn1 (fReader_isSign N 61 σ1) fun r4 =>
    if r4 = 0 then
      some σ1
    else
      fReader_readTest_28 N rec x1 y2 σ1
  else
    fReader_readTest_28 N rec x1 y2 σ1
def fReader_readNegation_49 (N : Nat) (rec : Int32 → St → Option St) : Nat → Int32 → Int32 → St → Option St
  | 0, _, _, _ => none
  | n+1, x2, x3, σ =>
    if x2 ≤ x3 then
      some σ
    else
      chk (inb (σ.1 121 0 0 0) 17) <|
      bn1 (fAct_emit N ((σ.1 121 0 0 0).toNatClampNeg) (-4) σ) fun σ1 =>
      (fReader_readNegation_49 N rec n) x2 (x3 + 1) σ1
def fReader_readNegation_27 (N : Nat) (rec : Int32 → St → Option St) (x1 : Int32) (x2 : Int32) (σ : St) : Option St :=
  bn1 (fReader_isWord N 10 σ) fun r1 =>
  if r1 = 0 then
    bn1 (fReader_readTest N rec x1 σ) fun σ2 =>
    fReader_readNegation_49 N rec N x2 0 σ2
  else
    bn1 (fReader_fail N 2 σ) fun σ3 =>
    some σ3
def fReader_readNegation_2 (N : Nat) (rec : Int32 → St → Option St) : Nat → Int32 → Int32 → St → Option St
  | 0, _, _, _ => none
  | n+1, x1, x2, σ =>
    if 6 ≤ x2 then
      fReader_readNegation_27 N rec x1 x2 σ
    else
      bn1 (fReader_isWord N 10 σ) fun r1 =>
      if r1 = 0 then
        fReader_readNegation_27 N rec x1 x2 σ
      else
        bn1 (fReader_advance N σ) fun σ2 =>
        (fReader_readNegation_2 N rec n) x1 (x2 + 1) σ2
def fReader_readNegation (N : Nat) (rec : Int32 → St → Option St) (x1 : Int32) (σ : St) : Option St :=
  fReader_readNegation_2 N rec N x1 0 σ
def fReader_readConjunction_7 (N : Nat) (rec : Int32 → St → Option St) : Nat → Int32 → Int32 → St → Option St
  | 0, _, _, _ => none
  | n+1, x1, x2, σ =>
    if 600 ≤ x2 then
      some σ
    else
      bn1 (fReader_isWord N 9 σ) fun r1 =>
      if r1 = 0 then
        some σ
      else
        bn1 (fReader_advance N σ) fun σ2 =>
        bn1 (fReader_readNegation N rec x1 σ2) fun σ3 =>
        chk (inb (σ3.1 121 0 0 0) 17) <|
        bn1 (fAct_emit N ((σ3.1 121 0 0 0).toNatClampNeg) (-3) σ3) fun σ4 =>
        (fReader_readConjunction_7 N rec n) x1 (x2 + 1) σ4
def fReader_readConjunction (N : Nat) (rec : Int32 → St → Option St) (x1 : Int32) (σ : St) : Option St :=
  bn1 (fReader_readNegation N rec x1 σ) fun σ1 =>
  fReader_readConjunction_7 N rec N x1 0 σ1
def fReader_readExpression_47 (N : Nat) (rec : Int32 → St → Option St) (s1 : Int32) (σ : St) : Option St :=
  bn1 (fReader_fail N s1 σ) fun σ1 =>
  some σ1
def fReader_readExpression_58 (N : Nat) (rec : Int32 → St → Option St) : Nat → Int32 → Int32 → St → Option St
  | 0, _, _, _ => none
  | n+1, x1, x3, σ =>
    if 600 ≤ x3 then
      some σ
    else
      bn1 (fReader_isWord N 8 σ) fun r1 =>
      if r1 = 0 then
        some σ
      else
        bn1 (fReader_advance N σ) fun σ2 =>
        bn1 (fReader_readConjunction N rec x1 σ2) fun σ3 =>
        chk (inb (σ3.1 121 0 0 0) 17) <|
        bn1 (fAct_emit N ((σ3.1 121 0 0 0).toNatClampNeg) (-2) σ3) fun σ4 =>
        (fReader_readExpression_58 N rec n) x1 (x3 + 1) σ4
def fReader_readExpression_30 (N : Nat) (rec : Int32 → St → Option St) (x1 : Int32) (s0 : Int32) (σ : St) : Option St :=
  if x1 ≤ 6 then
    bn1 (fReader_readConjunction N rec x1 σ) fun σ1 =>
    fReader_readExpression_58 N rec N x1 0 σ1
  else
    if s0 = 0 then
      fReader_readExpression_47 N rec 1 σ
    else
      fReader_readExpression_47 N rec 2 σ
def fReader_readExpression_25 (N : Nat) (rec : Int32 → St → Option St) (x1 : Int32) (σ : St) : Option St :=
  fReader_readExpression_30 N rec x1 1 σ
def fReader_readExpression_b (N : Nat) (rec : Int32 → St → Option St) (x1 : Int32) (σ : St) : Option St :=
  if (σ.1 117 0 0 0) = 2 then
    fReader_readExpression_25 N rec x1 σ
  else
    if (σ.1 117 0 0 0) = 1 then
      fReader_readExpression_25 N rec x1 σ
    else
      if (σ.1 117 0 0 0) = 40 then
        fReader_readExpression_25 N rec x1 σ
      else
        fReader_readExpression_30 N rec x1 0 σ
def fReader_readExpression (N : Nat) : Nat → Int32 → St → Option St
  | 0, _, _ => none
  | d+1, x1, σ => fReader_readExpression_b N (fReader_readExpression N d) x1 σ
def fReader_expectWord (N : Nat) (x1 : Int32) (σ : St) : Option St :=
  bn1 (fReader_isWord N x1 σ) fun r1 =>
  if r1 = 0 then
    bn1 (fReader_fail N 1 σ) fun σ2 =>
    some σ2
  else
    bn1 (fReader_advance N σ) fun σ3 =>
    some σ3
def fAct_addLike (N : Nat) (ka : Nat) (x1 : Int32) (x2 : Int32) (σ : St) : Option St :=
  if 24 ≤ (σ.1 12 ka 0 0) then
    some σ
  else
    chk (inb (σ.1 12 ka 0 0) 24) <|
    nm (sI σ 10 ka 0 (σ.1 12 ka 0 0).toNatClampNeg x1) fun (σ1 : St) =>
    chk (inb (σ1.1 12 ka 0 0) 24) <|
    nm (sI σ1 11 ka 0 (σ1.1 12 ka 0 0).toNatClampNeg x2) fun (σ2 : St) =>
    nm (sI σ2 12 ka 0 0 ((σ2.1 12 ka 0 0) + 1)) fun (σ3 : St) =>
    some σ3
def fReader_readLike (N : Nat) (σ : St) : Option St :=
  chk (inb (σ.1 121 0 0 0) 17) <|
  nm ((σ.1 2 ((σ.1 121 0 0 0).toNatClampNeg) 0 0)) fun (y1 : Int32) =>
  bn1 (fReader_readExpression N 8 1 σ) fun σ2 =>
  chk (inb (σ2.1 121 0 0 0) 17) <|
  bn1 (fAct_emit N ((σ2.1 121 0 0 0).toNatClampNeg) (-1) σ2) fun σ3 =>
  bn1 (fReader_expectWord N 4 σ3) fun σ4 =>
  if (σ4.1 113 0 0 0) = 0 then
    bnd (fReader_readNumber N σ4) fun r5 σ6 =>
    chk (inb (σ6.1 121 0 0 0) 17) <|
    bn1 (fAct_addLike N ((σ6.1 121 0 0 0).toNatClampNeg) y1 r5 σ6) fun σ7 =>
    some σ7
  else
    some σ4
def fAct_addSuit (N : Nat) (ka : Nat) (x1 : Int32) (σ : St) : Option St :=
  if 24 ≤ (σ.1 9 ka 0 0) then
    some σ
  else
    chk (inb (σ.1 9 ka 0 0) 24) <|
    nm (sI σ 8 ka 0 (σ.1 9 ka 0 0).toNatClampNeg x1) fun (σ1 : St) =>
    nm (sI σ1 9 ka 0 0 ((σ1.1 9 ka 0 0) + 1)) fun (σ2 : St) =>
    some σ2
def fReader_readWorth_40 (N : Nat) (x1 : Int32) (x2 : Int32) (σ : St) : Option St :=
  chk (inb (σ.1 121 0 0 0) 17) <|
  bn1 (fAct_emit N ((σ.1 121 0 0 0).toNatClampNeg) (-1) σ) fun σ1 =>
  if x1 = 2 then
    chk (inb (σ1.1 121 0 0 0) 17) <|
    nm (sI σ1 5 ((σ1.1 121 0 0 0).toNatClampNeg) 0 0 x2) fun (σ2 : St) =>
    some σ2
  else
  if x1 = 3 then
    chk (inb (σ1.1 121 0 0 0) 17) <|
    nm (sI σ1 6 ((σ1.1 121 0 0 0).toNatClampNeg) 0 0 x2) fun (σ3 : St) =>
    some σ3
  else
  if x1 = 4 then
    chk (inb (σ1.1 121 0 0 0) 17) <|
    nm (sI σ1 7 ((σ1.1 121 0 0 0).toNatClampNeg) 0 0 x2) fun (σ4 : St) =>
    some σ4
  else
  chk (inb (σ1.1 121 0 0 0) 17) <|
  bn1 (fAct_addSuit N ((σ1.1 121 0 0 0).toNatClampNeg) x2 σ1) fun σ5 =>
  some σ5
def fReader_readWorth (N : Nat) (x1 : Int32) (σ : St) : Option St :=
  chk (inb (σ.1 121 0 0 0) 17) <|
  nm ((σ.1 2 ((σ.1 121 0 0 0).toNatClampNeg) 0 0)) fun (y1 : Int32) =>
  bn1 (fReader_readExpression N 8 1 σ) fun σ2 =>
  bn1 (fReader_isWord N 7 σ2) fun r3 =>
  if r3 = 0 then
    fReader_readWorth_40 N x1 y1 σ2
  else
    bn1 (fReader_advance N σ2) fun σ4 =>
    bn1 (fReader_readExpression N 8 1 σ4) fun σ5 =>
    chk (inb (σ5.1 121 0 0 0) 17) <|
    bn1 (fAct_emit N ((σ5.1 121 0 0 0).toNatClampNeg) (-5) σ5) fun σ6 =>
    fReader_readWorth_40 N x1 y1 σ6
def fReader_readClause_25 (N : Nat) (σ : St) : Option St :=
  bn1 (fReader_fail N 1 σ) fun σ1 =>
  some σ1
def fReader_readClause_114 (N : Nat) (σ : St) : Option St :=
  bn1 (fReader_expect N 59 σ) fun σ1 =>
  some σ1
def fReader_readClause (N : Nat) (x1 : Int32) (σ : St) : Option St :=
  if (σ.1 117 0 0 0) = 1 then
    if (σ.1 118 0 0 0) = (-1) then
      fReader_readClause_25 N σ
    else
      if (σ.1 118 0 0 0) ≤ 6 then
        if x1 < 24 then
          nm ((σ.1 118 0 0 0)) fun (y1 : Int32) =>
          bn1 (fReader_advance N σ) fun σ2 =>
          if y1 = 0 then
            bn1 (fReader_readInsured N σ2) fun σ3 =>
            fReader_readClause_114 N σ3
          else
          if y1 = 1 then
            bn1 (fReader_readParam N σ2) fun σ4 =>
            fReader_readClause_114 N σ4
          else
          if y1 = 6 then
            bn1 (fReader_readLike N σ2) fun σ5 =>
            fReader_readClause_114 N σ5
          else
          bn1 (fReader_readWorth N y1 σ2) fun σ6 =>
          fReader_readClause_114 N σ6
        else
          bn1 (fReader_fail N 2 σ) fun σ7 =>
          some σ7
      else
        fReader_readClause_25 N σ
  else
    fReader_readClause_25 N σ
def fReader_read_76 (N : Nat) (k2_0 : Nat) (σ : St) : Option (Int32 × St) :=
  bn1 (fReader_clear N σ) fun σ1 =>
  some ((σ1.1 113 0 0 0), σ1)
def fReader_read_45 (N : Nat) (k2_0 : Nat) : Nat → Int32 → St → Option (Int32 × St)
  | 0, _, _ => none
  | n+1, x3, σ =>
    if 24 < x3 then
      fReader_read_76 N k2_0 σ
    else
      if (σ.1 113 0 0 0) = 0 then
        if (σ.1 117 0 0 0) = 0 then
          fReader_read_76 N k2_0 σ
        else
          bn1 (fReader_readClause N x3 σ) fun σ1 =>
          (fReader_read_45 N k2_0 n) (x3 + 1) σ1
      else
        fReader_read_76 N k2_0 σ
def fReader_read (N : Nat) (k2_0 : Nat) (x1 : Int32) (σ : St) : Option (Int32 × St) :=
  nm (sI σ 121 0 0 0 (Int32.ofNat k2_0)) fun (σ1 : St) =>
  chk (inb (σ1.1 121 0 0 0) 17) <|
  bn1 (fAct_begin N ((σ1.1 121 0 0 0).toNatClampNeg) σ1) fun σ2 =>
  bn1 (fMath_min_I N x1 (σ2.1 111 0 0 0) σ2) fun r3 =>
  nm (sI σ2 114 0 0 0 r3) fun (σ4 : St) =>
  nm (sI σ4 116 0 0 0 0) fun (σ5 : St) =>
  nm (sI σ5 113 0 0 0 0) fun (σ6 : St) =>
  nm (sI σ6 112 0 0 0 (-1)) fun (σ7 : St) =>
  bn1 (fReader_advance N σ7) fun σ8 =>
  fReader_read_45 N k2_0 N 0 σ8
def fAct_reign (N : Nat) (ka : Nat) (x1 : Int32) (x2 : Int32) (x3 : Int32) (σ : St) : Option St :=
  nm (sI σ 13 ka 0 0 x1) fun (σ1 : St) =>
  nm (sI σ1 14 ka 0 0 x2) fun (σ2 : St) =>
  nm (sI σ2 15 ka 0 0 x3) fun (σ3 : St) =>
  some σ3
def fReader_refuse (N : Nat) (σ : St) : Option St :=
  nm (sI σ 112 0 0 0 (-1)) fun (σ1 : St) =>
  bn1 (fReader_clear N σ1) fun σ2 =>
  some σ2
def fX_text_36 (N : Nat) (σ : St) : Option ((Option Int32) × St) :=
  bn1 (fReader_refuse N σ) fun σ1 =>
  some ((some (-9)), σ1)
def fX_text (N : Nat) (x1 : Int32) (x2 : Int32) (x3 : Int32) (σ : St) : Option ((Option Int32) × St) :=
  btR (fX_requireOnTape N x1 σ) σ fun _ =>
  if 16 ≤ (σ.1 159 0 0 0) then
    fX_text_36 N σ
  else
    bn1 (fX_outside N x2 0 935 σ) fun r1 =>
    if r1 = 0 then
      bn1 (fX_outside N x3 0 935 σ) fun r2 =>
      if r2 = 0 then
        chk (inb (σ.1 159 0 0 0) 17) <|
        bnd (fReader_read N ((σ.1 159 0 0 0).toNatClampNeg) x1 σ) fun r3 σ4 =>
        if r3 = 0 then
          chk (inb (σ4.1 159 0 0 0) 17) <|
          bn1 (fAct_reign N ((σ4.1 159 0 0 0).toNatClampNeg) x2 x3 (σ4.1 162 0 0 0) σ4) fun σ5 =>
          nm (sI σ5 159 0 0 0 ((σ5.1 159 0 0 0) + 1)) fun (σ6 : St) =>
          some ((some ((σ6.1 159 0 0 0) - 1)), σ6)
        else
          some ((some ((-1) - r3)), σ4)
      else
        fX_text_36 N σ
    else
      fX_text_36 N σ
def fEvents_leastNumber_11 (N : Nat) (σ : St) : Option Int32 :=
  some 1
def fEvents_leastNumber (N : Nat) (x0 : Int32) (σ : St) : Option Int32 :=
  if x0 = 1 then
    fEvents_leastNumber_11 N σ
  else
    if x0 = 6 then
      fEvents_leastNumber_11 N σ
    else
      some 0
def fEvents_mostNumber (N : Nat) (x0 : Int32) (σ : St) : Option Int32 :=
  if x0 = 0 then
    some 3
  else
  if x0 = 1 then
    some 999
  else
  if x0 = 2 then
    some 0
  else
  if x0 = 3 then
    some 0
  else
  if x0 = 4 then
    some 0
  else
  if x0 = 5 then
    some 9999
  else
  if x0 = 6 then
    some 6
  else
  some 0
def fEvents_add (N : Nat) (x1 : Int32) (x2 : Int32) (x3 : Int32) (x4 : Int32) (x5 : Int32) (σ : St) : Option (Int32 × St) :=
  chk (inb (σ.1 43 0 0 0) 160) <|
  nm (sI σ 37 0 0 (σ.1 43 0 0 0).toNatClampNeg x1) fun (σ1 : St) =>
  chk (inb (σ1.1 43 0 0 0) 160) <|
  nm (sI σ1 38 0 0 (σ1.1 43 0 0 0).toNatClampNeg x2) fun (σ2 : St) =>
  chk (inb (σ2.1 43 0 0 0) 160) <|
  nm (sI σ2 39 0 0 (σ2.1 43 0 0 0).toNatClampNeg x3) fun (σ3 : St) =>
  chk (inb (σ3.1 43 0 0 0) 160) <|
  nm (sI σ3 40 0 0 (σ3.1 43 0 0 0).toNatClampNeg x4) fun (σ4 : St) =>
  chk (inb (σ4.1 43 0 0 0) 160) <|
  nm (sI σ4 41 0 0 (σ4.1 43 0 0 0).toNatClampNeg x5) fun (σ5 : St) =>
  chk (inb (σ5.1 43 0 0 0) 160) <|
  nm (sI σ5 42 0 0 (σ5.1 43 0 0 0).toNatClampNeg (-1)) fun (σ6 : St) =>
  nm (sI σ6 43 0 0 0 ((σ6.1 43 0 0 0) + 1)) fun (σ7 : St) =>
  some (((σ7.1 43 0 0 0) - 1), σ7)
def fX_tell (N : Nat) (x1 : Int32) (x2 : Int32) (x3 : Int32) (x4 : Int32) (σ : St) : Option (Int32 × St) :=
  bn1 (fLand_noteChange N x2 σ) fun σ1 =>
  bnd (fEvents_add N x1 x2 x3 x4 (σ1.1 162 0 0 0) σ1) fun r2 σ3 =>
  some (r2, σ3)
def fX_event (N : Nat) (x1 : Int32) (x2 : Int32) (x3 : Int32) (x4 : Int32) (σ : St) : Option ((Option Int32) × St) :=
  btR (fX_requirePerson N x2 σ) σ fun _ =>
  btR (fX_requireElement N x1 7 σ) σ fun _ =>
  bn1 (fEvents_leastNumber N x1 σ) fun r1 =>
  bn1 (fEvents_mostNumber N x1 σ) fun r2 =>
  bn1 (fX_outside N x3 r1 r2 σ) fun r3 =>
  if 160 ≤ (σ.1 43 0 0 0) then
    some ((some (-1)), σ)
  else
    if r3 = 0 then
      bn1 (fX_outside N x4 312 (σ.1 162 0 0 0) σ) fun r4 =>
      if r4 = 0 then
        bnd (fX_tell N x1 x2 x3 x4 σ) fun r5 σ6 =>
        some ((some r5), σ6)
      else
        some ((some (-1)), σ)
    else
      some ((some (-1)), σ)
def fX_back (N : Nat) (x1 : Int32) (σ : St) : Option ((Option Int32) × St) :=
  btR (fX_requireElement N x1 (σ.1 43 0 0 0) σ) σ fun _ =>
  chk (inb x1 160) <|
  if (σ.1 42 0 0 x1.toNatClampNeg) = (-1) then
    nm (sI σ 42 0 0 x1.toNatClampNeg (σ.1 162 0 0 0)) fun (σ1 : St) =>
    bn1 (fLand_noteChange N (σ1.1 38 0 0 x1.toNatClampNeg) σ1) fun σ2 =>
    some ((some 1), σ2)
  else
    some ((some 0), σ)
def fEvents_isKnown_30 (N : Nat) (σ : St) : Option Int32 :=
  some 1
def fEvents_isKnown (N : Nat) (x1 : Int32) (x2 : Int32) (σ : St) : Option Int32 :=
  chk (inb x1 160) <|
  if x2 < (σ.1 41 0 0 x1.toNatClampNeg) then
    some 0
  else
    if (σ.1 42 0 0 x1.toNatClampNeg) = (-1) then
      fEvents_isKnown_30 N σ
    else
      if (σ.1 42 0 0 x1.toNatClampNeg) ≤ x2 then
        some 0
      else
        fEvents_isKnown_30 N σ
def fArrays_fill_Law_spanOf_5 (N : Nat) (k0_0 : Nat) : Nat → Int32 → Int32 → Int32 → St → Option St
  | 0, _, _, _, _ => none
  | n+1, x1, x2, x3, σ =>
    if x3 ≤ x2 then
      some σ
    else
      chk (inb x2 936) <|
      nm (sI σ 63 k0_0 0 x2.toNatClampNeg x1.toInt8.toInt32) fun (σ1 : St) =>
      (fArrays_fill_Law_spanOf_5 N k0_0 n) x1 (x2 + 1) x3 σ1
def fArrays_fill_Law_spanOf (N : Nat) (k0_0 : Nat) (x1 : Int32) (σ : St) : Option St :=
  fArrays_fill_Law_spanOf_5 N k0_0 N x1 0 936 σ
def fLaw_orderActs_102 (N : Nat) (kv : Nat) (go13 : Int32 → Int32 → Nat → Int32 → Int32 → St → Option St) (x1 : Int32) (x2 : Int32) (k3_1 : Nat) (x4 : Int32) (x5 : Int32) (x6 : Int32) (σ : St) : Option St :=
  chk (inb x6 17) <|
  nm (sI σ 65 kv k3_1 x6.toNatClampNeg x5) fun (σ1 : St) =>
  go13 x1 x2 k3_1 (x4 + 1) (x5 + 1) σ1
def fLaw_orderActs_54 (N : Nat) (kv : Nat) (go13 : Int32 → Int32 → Nat → Int32 → Int32 → St → Option St) : Nat → Int32 → Int32 → Nat → Int32 → Int32 → Int32 → St → Option St
  | 0, _, _, _, _, _, _, _ => none
  | n+1, x1, x2, k3_1, x4, x5, x6, σ =>
    if x6 ≤ 0 then
      fLaw_orderActs_102 N kv go13 x1 x2 k3_1 x4 x5 x6 σ
    else
      chk (inb (x6 - 1) 17) <|
      chk (inb (σ.1 65 kv k3_1 (x6 - 1).toNatClampNeg) 17) <|
      chk (inb x5 17) <|
      if (σ.1 13 (x5.toNatClampNeg) 0 0) < (σ.1 13 ((σ.1 65 kv k3_1 (x6 - 1).toNatClampNeg).toNatClampNeg) 0 0) then
        fLaw_orderActs_102 N kv go13 x1 x2 k3_1 x4 x5 x6 σ
      else
        chk (inb x6 17) <|
        nm (sI σ 65 kv k3_1 x6.toNatClampNeg (σ.1 65 kv k3_1 (x6 - 1).toNatClampNeg)) fun (σ1 : St) =>
        (fLaw_orderActs_54 N kv go13 n) x1 x2 k3_1 x4 x5 (x6 + (-1)) σ1
def fLaw_orderActs_13 (N : Nat) (kv : Nat) : Nat → Int32 → Int32 → Nat → Int32 → Int32 → St → Option St
  | 0, _, _, _, _, _, _ => none
  | n+1, x1, x2, k3_1, x4, x5, σ =>
    if (σ.1 62 kv 0 0) ≤ x5 then
      chk (inb x1 35) <|
      nm (sI σ 66 kv 0 x1.toNatClampNeg x4) fun (σ1 : St) =>
      some σ1
    else
      chk (inb x5 17) <|
      if x2 < (σ.1 13 (x5.toNatClampNeg) 0 0) then
        (fLaw_orderActs_13 N kv n) x1 x2 k3_1 x4 (x5 + 1) σ
      else
        if (σ.1 14 (x5.toNatClampNeg) 0 0) ≤ x2 then
          (fLaw_orderActs_13 N kv n) x1 x2 k3_1 x4 (x5 + 1) σ
        else
          fLaw_orderActs_54 N kv (fLaw_orderActs_13 N kv n) N x1 x2 k3_1 x4 x5 x4 σ
def fLaw_orderActs (N : Nat) (kv : Nat) (x1 : Int32) (x2 : Int32) (σ : St) : Option St :=
  chk (inb x1 35) <|
  fLaw_orderActs_13 N kv N x1 x2 x1.toNatClampNeg 0 0 σ
def fLaw_overlay_112 (N : Nat) (kv : Nat) (x1 : Int32) (x2 : Int32) (k3_0 : Nat) (σ : St) : Option St :=
  if (σ.1 9 k3_0 0 0) ≤ 0 then
    some σ
  else
    chk (inb x1 35) <|
    nm (sI σ 71 kv 0 x1.toNatClampNeg x2) fun (σ1 : St) =>
    some σ1
def fLaw_overlay_97 (N : Nat) (kv : Nat) (x1 : Int32) (x2 : Int32) (k3_0 : Nat) (σ : St) : Option St :=
  if (σ.1 7 k3_0 0 0) = (-1) then
    fLaw_overlay_112 N kv x1 x2 k3_0 σ
  else
    chk (inb x1 35) <|
    nm (sI σ 70 kv 0 x1.toNatClampNeg x2) fun (σ1 : St) =>
    fLaw_overlay_112 N kv x1 x2 k3_0 σ1
def fLaw_overlay_82 (N : Nat) (kv : Nat) (x1 : Int32) (x2 : Int32) (k3_0 : Nat) (σ : St) : Option St :=
  if (σ.1 6 k3_0 0 0) = (-1) then
    fLaw_overlay_97 N kv x1 x2 k3_0 σ
  else
    chk (inb x1 35) <|
    nm (sI σ 69 kv 0 x1.toNatClampNeg x2) fun (σ1 : St) =>
    fLaw_overlay_97 N kv x1 x2 k3_0 σ1
def fLaw_overlay_67 (N : Nat) (kv : Nat) (x1 : Int32) (x2 : Int32) (k3_0 : Nat) (σ : St) : Option St :=
  if (σ.1 5 k3_0 0 0) = (-1) then
    fLaw_overlay_82 N kv x1 x2 k3_0 σ
  else
    chk (inb x1 35) <|
    nm (sI σ 68 kv 0 x1.toNatClampNeg x2) fun (σ1 : St) =>
    fLaw_overlay_82 N kv x1 x2 k3_0 σ1
def fLaw_overlay_10 (N : Nat) (kv : Nat) : Nat → Int32 → Int32 → Nat → Int32 → St → Option St
  | 0, _, _, _, _, _ => none
  | n+1, x1, x2, k3_0, x4, σ =>
    if 8 ≤ x4 then
      if (σ.1 4 k3_0 0 0) = 0 then
        fLaw_overlay_67 N kv x1 x2 k3_0 σ
      else
        chk (inb x1 35) <|
        nm (sI σ 67 kv 0 x1.toNatClampNeg (σ.1 4 k3_0 0 0)) fun (σ1 : St) =>
        fLaw_overlay_67 N kv x1 x2 k3_0 σ1
    else
      chk (inb x4 8) <|
      if (σ.1 3 k3_0 0 x4.toNatClampNeg) = (-1) then
        (fLaw_overlay_10 N kv n) x1 x2 k3_0 (x4 + 1) σ
      else
        chk (inb x1 35) <|
        nm (sI σ 64 kv (x1.toNatClampNeg) x4.toNatClampNeg (σ.1 3 k3_0 0 x4.toNatClampNeg)) fun (σ2 : St) =>
        (fLaw_overlay_10 N kv n) x1 x2 k3_0 (x4 + 1) σ2
def fLaw_overlay (N : Nat) (kv : Nat) (x1 : Int32) (x2 : Int32) (σ : St) : Option St :=
  chk (inb x2 17) <|
  fLaw_overlay_10 N kv N x1 x2 x2.toNatClampNeg 0 σ
def fLaw_makeSheet_66 (N : Nat) (kv : Nat) : Nat → Int32 → Int32 → St → Option St
  | 0, _, _, _ => none
  | n+1, x1, x3, σ =>
    if x3 < 0 then
      some σ
    else
      chk (inb x1 35) <|
      chk (inb x3 17) <|
      bn1 (fLaw_overlay N kv x1 (σ.1 65 kv (x1.toNatClampNeg) x3.toNatClampNeg) σ) fun σ1 =>
      (fLaw_makeSheet_66 N kv n) x1 (x3 + (-1)) σ1
def fLaw_makeSheet (N : Nat) (kv : Nat) (x1 : Int32) (x2 : Int32) (σ : St) : Option St :=
  bn1 (fLaw_orderActs N kv x1 x2 σ) fun σ1 =>
  chk (inb x1 35) <|
  chk (cpok 0 0 8 8 8) <|
  nm (sA σ1 64 kv (x1.toNatClampNeg) (va_cpy dflts (σ1.1 64 kv (x1.toNatClampNeg)) 0 0 8)) fun (σ2 : St) =>
  nm (sI σ2 67 kv 0 x1.toNatClampNeg 0) fun (σ3 : St) =>
  nm (sI σ3 68 kv 0 x1.toNatClampNeg (-1)) fun (σ4 : St) =>
  nm (sI σ4 69 kv 0 x1.toNatClampNeg (-1)) fun (σ5 : St) =>
  nm (sI σ5 70 kv 0 x1.toNatClampNeg (-1)) fun (σ6 : St) =>
  nm (sI σ6 71 kv 0 x1.toNatClampNeg (-1)) fun (σ7 : St) =>
  nm (((σ7.1 66 kv 0 x1.toNatClampNeg) - 1)) fun (y8 : Int32) =>
  fLaw_makeSheet_66 N kv N x1 y8 σ7
def fLaw_make_110 (N : Nat) (kv : Nat) (go78 : Int32 → Int32 → St → Option St) (x2 : Int32) (x3 : Int32) (σ : St) : Option St :=
  chk (inb x3 936) <|
  nm (sI σ 63 kv 0 x3.toNatClampNeg x2.toInt8.toInt32.toInt8.toInt32) fun (σ1 : St) =>
  go78 x2 (x3 + 1) σ1
def fLaw_make_78 (N : Nat) (kv : Nat) : Nat → Int32 → Int32 → St → Option St
  | 0, _, _, _ => none
  | n+1, x2, x3, σ =>
    if 936 ≤ x3 then
      some σ
    else
      chk (inb x3 936) <|
      if (σ.1 63 kv 0 x3.toNatClampNeg) = 1 then
        if 34 ≤ x2 then
          fLaw_make_110 N kv (fLaw_make_78 N kv n) x2 x3 σ
        else
          bn1 (fLaw_makeSheet N kv (x2 + 1) x3 σ) fun σ1 =>
          fLaw_make_110 N kv (fLaw_make_78 N kv n) (x2 + 1) x3 σ1
      else
        fLaw_make_110 N kv (fLaw_make_78 N kv n) x2 x3 σ
def fLaw_make_23 (N : Nat) (kv : Nat) : Nat → Int32 → St → Option St
  | 0, _, _ => none
  | n+1, x2, σ =>
    if (σ.1 62 kv 0 0) ≤ x2 then
      nm (sI σ 63 kv 0 0 (1 : Int32).toInt8.toInt32) fun (σ1 : St) =>
      fLaw_make_78 N kv N (-1) 0 σ1
    else
      chk (inb x2 17) <|
      chk (inb (σ.1 13 (x2.toNatClampNeg) 0 0) 936) <|
      nm (sI σ 63 kv 0 (σ.1 13 (x2.toNatClampNeg) 0 0).toNatClampNeg (1 : Int32).toInt8.toInt32) fun (σ2 : St) =>
      chk (inb (σ2.1 14 (x2.toNatClampNeg) 0 0) 936) <|
      nm (sI σ2 63 kv 0 (σ2.1 14 (x2.toNatClampNeg) 0 0).toNatClampNeg (1 : Int32).toInt8.toInt32) fun (σ3 : St) =>
      (fLaw_make_23 N kv n) (x2 + 1) σ3
def fLaw_make (N : Nat) (kv : Nat) (x1 : Int32) (σ : St) : Option St :=
  bn1 (fMath_min_I N x1 17 σ) fun r1 =>
  nm (sI σ 62 kv 0 0 r1) fun (σ2 : St) =>
  bn1 (fArrays_fill_Law_spanOf N kv 0 σ2) fun σ3 =>
  fLaw_make_23 N kv N 0 σ3
def fView_settle_26 (N : Nat) (kv : Nat) : Nat → Int32 → St → Option St
  | 0, _, _ => none
  | n+1, x3, σ =>
    if 20 ≤ x3 then
      some σ
    else
      chk (inb x3 20) <|
      nm (sI σ 82 kv (x3.toNatClampNeg) 0 (-1)) fun (σ1 : St) =>
      (fView_settle_26 N kv n) (x3 + 1) σ1
def fView_settle (N : Nat) (kv : Nat) (x1 : Int32) (x2 : Int32) (σ : St) : Option St :=
  nm (sI σ 147 kv 0 0 x1) fun (σ1 : St) =>
  if (σ1.1 62 kv 0 0) = x2 then
    some σ1
  else
    bn1 (fLaw_make N kv x2 σ1) fun σ2 =>
    fView_settle_26 N kv N 0 σ2
def fX_asOfToday (N : Nat) (σ : St) : Option (Nat × St) :=
  bn1 (fView_settle N 0 (σ.1 162 0 0 0) (σ.1 159 0 0 0) σ) fun σ1 =>
  some (0, σ1)
def fX_textsToldBy_4 (N : Nat) : Nat → Int32 → Int32 → Int32 → St → Option Int32
  | 0, _, _, _, _ => none
  | n+1, x1, x2, x3, σ =>
    if (σ.1 159 0 0 0) ≤ x3 then
      some x2
    else
      chk (inb x3 17) <|
      if x1 < (σ.1 15 (x3.toNatClampNeg) 0 0) then
        (fX_textsToldBy_4 N n) x1 x2 (x3 + 1) σ
      else
        (fX_textsToldBy_4 N n) x1 (x2 + 1) (x3 + 1) σ
def fX_textsToldBy (N : Nat) (x1 : Int32) (σ : St) : Option Int32 :=
  fX_textsToldBy_4 N N x1 0 0 σ
def fX_asOfTheDay (N : Nat) (σ : St) : Option (Nat × St) :=
  bn1 (fX_dayKnown N σ) fun r1 =>
  if r1 = (σ.1 162 0 0 0) then
    bnd (fX_asOfToday N σ) fun r4 σ5 =>
    some (r4, σ5)
  else
    bn1 (fX_textsToldBy N r1 σ) fun r2 =>
    bn1 (fView_settle N 1 r1 r2 σ) fun σ3 =>
    some (1, σ3)
def fArrays_fill_Life_totals_5 (N : Nat) (k0_0 k0_1 : Nat) : Nat → Int32 → Int32 → Int32 → St → Option St
  | 0, _, _, _, _ => none
  | n+1, x1, x2, x3, σ =>
    if x3 ≤ x2 then
      some σ
    else
      chk (inb x2 3) <|
      nm (sI σ 81 k0_0 k0_1 x2.toNatClampNeg x1) fun (σ1 : St) =>
      (fArrays_fill_Life_totals_5 N k0_0 k0_1 n) x1 (x2 + 1) x3 σ1
def fArrays_fill_Life_totals (N : Nat) (k0_0 k0_1 : Nat) (x1 : Int32) (σ : St) : Option St :=
  fArrays_fill_Life_totals_5 N k0_0 k0_1 N x1 0 3 σ
def fLife_begin (N : Nat) (kv kp : Nat) (σ : St) : Option St :=
  nm (sI σ 83 kv kp 0 311) fun (σ1 : St) =>
  nm (sI σ1 84 kv kp 0 0) fun (σ2 : St) =>
  nm (sI σ2 85 kv kp 0 0) fun (σ3 : St) =>
  nm (sI σ3 86 kv kp 0 (-1)) fun (σ4 : St) =>
  nm (sI σ4 87 kv kp 0 1) fun (σ5 : St) =>
  nm (sI σ5 88 kv kp 0 0) fun (σ6 : St) =>
  nm (sI σ6 89 kv kp 0 0) fun (σ7 : St) =>
  nm (sI σ7 90 kv kp 0 (-1)) fun (σ8 : St) =>
  nm (sI σ8 91 kv kp 0 (-1)) fun (σ9 : St) =>
  nm (sI σ9 92 kv kp 0 0) fun (σ10 : St) =>
  chk (inb (σ10.1 74 kv kp 0) 20) <|
  nm (sI σ10 93 kv kp 0 (σ10.1 50 0 0 (σ10.1 74 kv kp 0).toNatClampNeg)) fun (σ11 : St) =>
  nm (sI σ11 94 kv kp 0 0) fun (σ12 : St) =>
  bn1 (fArrays_fill_Life_totals N kv kp 0 σ12) fun σ13 =>
  some σ13
def fArrays_fill_Life_stamps_5 (N : Nat) (k0_0 k0_1 : Nat) : Nat → Int32 → Int32 → Int32 → St → Option St
  | 0, _, _, _, _ => none
  | n+1, x1, x2, x3, σ =>
    if x3 ≤ x2 then
      some σ
    else
      chk (inb x2 156) <|
      nm (sI σ 80 k0_0 k0_1 x2.toNatClampNeg x1.toInt8.toInt32) fun (σ1 : St) =>
      (fArrays_fill_Life_stamps_5 N k0_0 k0_1 n) x1 (x2 + 1) x3 σ1
def fArrays_fill_Life_stamps (N : Nat) (k0_0 k0_1 : Nat) (x1 : Int32) (σ : St) : Option St :=
  fArrays_fill_Life_stamps_5 N k0_0 k0_1 N x1 0 156 σ
def fBooks_copyStamps_103 (N : Nat) (k3_0 k3_1 : Nat) (go65 : Int32 → Int32 → Int32 → St → Option St) : Nat → Int32 → Int32 → Int32 → Int32 → Int32 → Int32 → St → Option St
  | 0, _, _, _, _, _, _, _ => none
  | n+1, x1, x2, x4, x5, x6, x7, σ =>
    if x6 ≤ x7 then
      go65 x1 x2 (x4 + 1) σ
    else
      chk (inb ((x5 * 52) + x7) 3120) <|
      chk (inb ((x4 * 52) + x7) 156) <|
      nm (sI σ 80 k3_0 k3_1 ((x4 * 52) + x7).toNatClampNeg (σ.1 16 0 0 ((x5 * 52) + x7).toNatClampNeg).toInt8.toInt32) fun (σ1 : St) =>
      (fBooks_copyStamps_103 N k3_0 k3_1 go65 n) x1 x2 x4 x5 x6 (x7 + 1) σ1
def fBooks_copyStamps_98 (N : Nat) (k3_0 k3_1 : Nat) (go65 : Int32 → Int32 → Int32 → St → Option St) (x1 : Int32) (x2 : Int32) (x4 : Int32) (x5 : Int32) (s0 : Int32) (σ : St) : Option St :=
  fBooks_copyStamps_103 N k3_0 k3_1 go65 N x1 x2 x4 x5 s0 0 σ
def fBooks_copyStamps_65 (N : Nat) (k3_0 k3_1 : Nat) : Nat → Int32 → Int32 → Int32 → St → Option St
  | 0, _, _, _, _ => none
  | n+1, x1, x2, x4, σ =>
    if 3 ≤ x4 then
      some σ
    else
      bn1 (fBooks_latestRow N x1 x4 x2 σ) fun r1 =>
      if r1 = (-1) then
        fBooks_copyStamps_98 N k3_0 k3_1 (fBooks_copyStamps_65 N k3_0 k3_1 n) x1 x2 x4 r1 0 σ
      else
        chk (inb r1 60) <|
        fBooks_copyStamps_98 N k3_0 k3_1 (fBooks_copyStamps_65 N k3_0 k3_1 n) x1 x2 x4 r1 (σ.1 19 0 0 r1.toNatClampNeg) σ
def fBooks_copyStamps_8 (N : Nat) (k3_0 k3_1 : Nat) : Nat → Int32 → Int32 → Int32 → St → Option St
  | 0, _, _, _, _ => none
  | n+1, x1, x2, x4, σ =>
    if (σ.1 26 0 0 0) ≤ x4 then
      fBooks_copyStamps_65 N k3_0 k3_1 N x1 x2 0 σ
    else
      chk (inb x4 100) <|
      if (σ.1 22 0 0 x4.toNatClampNeg) = x1 then
        if x2 < (σ.1 25 0 0 x4.toNatClampNeg) then
          (fBooks_copyStamps_8 N k3_0 k3_1 n) x1 x2 (x4 + 1) σ
        else
          chk (inb (σ.1 23 0 0 x4.toNatClampNeg) 156) <|
          nm (sI σ 80 k3_0 k3_1 (σ.1 23 0 0 x4.toNatClampNeg).toNatClampNeg (σ.1 24 0 0 x4.toNatClampNeg).toInt8.toInt32.toInt8.toInt32) fun (σ1 : St) =>
          (fBooks_copyStamps_8 N k3_0 k3_1 n) x1 x2 (x4 + 1) σ1
      else
        (fBooks_copyStamps_8 N k3_0 k3_1 n) x1 x2 (x4 + 1) σ
def fBooks_copyStamps (N : Nat) (k3_0 k3_1 : Nat) (x1 : Int32) (x2 : Int32) (σ : St) : Option St :=
  bn1 (fArrays_fill_Life_stamps N k3_0 k3_1 (-1) σ) fun σ1 =>
  fBooks_copyStamps_8 N k3_0 k3_1 N x1 x2 0 σ1
def fView_insert_54 (N : Nat) (kv : Nat) (x1 : Int32) (x3 : Int32) (σ : St) : Option St :=
  chk (inb x3 160) <|
  nm (sI σ 146 kv 0 x3.toNatClampNeg x1) fun (σ1 : St) =>
  some σ1
def fView_insert_2 (N : Nat) (kv : Nat) : Nat → Int32 → Int32 → St → Option St
  | 0, _, _, _ => none
  | n+1, x1, x3, σ =>
    if x3 ≤ 0 then
      fView_insert_54 N kv x1 x3 σ
    else
      chk (inb (x3 - 1) 160) <|
      chk (inb (σ.1 146 kv 0 (x3 - 1).toNatClampNeg) 160) <|
      chk (inb x1 160) <|
      if (σ.1 40 0 0 (σ.1 146 kv 0 (x3 - 1).toNatClampNeg).toNatClampNeg) ≤ (σ.1 40 0 0 x1.toNatClampNeg) then
        fView_insert_54 N kv x1 x3 σ
      else
        chk (inb x3 160) <|
        nm (sI σ 146 kv 0 x3.toNatClampNeg (σ.1 146 kv 0 (x3 - 1).toNatClampNeg)) fun (σ1 : St) =>
        (fView_insert_2 N kv n) x1 (x3 + (-1)) σ1
def fView_insert (N : Nat) (kv : Nat) (x1 : Int32) (x2 : Int32) (σ : St) : Option St :=
  fView_insert_2 N kv N x1 x2 σ
def fView_listEvents_4 (N : Nat) (kv : Nat) : Nat → Int32 → Int32 → Int32 → St → Option (Int32 × St)
  | 0, _, _, _, _ => none
  | n+1, x1, x2, x3, σ =>
    if (σ.1 43 0 0 0) ≤ x3 then
      some (x2, σ)
    else
      chk (inb x3 160) <|
      if (σ.1 38 0 0 x3.toNatClampNeg) = x1 then
        nm (sI σ 144 kv 0 x3.toNatClampNeg (0 &&& 1)) fun (σ1 : St) =>
        nm (sI σ1 145 kv 0 x3.toNatClampNeg (0 &&& 1)) fun (σ2 : St) =>
        bn1 (fEvents_isKnown N x3 (σ2.1 147 kv 0 0) σ2) fun r3 =>
        if r3 = 0 then
          (fView_listEvents_4 N kv n) x1 x2 (x3 + 1) σ2
        else
          if (σ2.1 37 0 0 x3.toNatClampNeg) = 8 then
            chk (inb (σ2.1 39 0 0 x3.toNatClampNeg) 160) <|
            nm (sI σ2 145 kv 0 (σ2.1 39 0 0 x3.toNatClampNeg).toNatClampNeg (1 &&& 1)) fun (σ5 : St) =>
            (fView_listEvents_4 N kv n) x1 x2 (x3 + 1) σ5
          else
            bn1 (fView_insert N kv x3 x2 σ2) fun σ4 =>
            (fView_listEvents_4 N kv n) x1 (x2 + 1) (x3 + 1) σ4
      else
        (fView_listEvents_4 N kv n) x1 x2 (x3 + 1) σ
def fView_listEvents (N : Nat) (kv : Nat) (x1 : Int32) (σ : St) : Option (Int32 × St) :=
  fView_listEvents_4 N kv N x1 0 0 σ
def fLife_rowOfLatest (N : Nat) (kv kp : Nat) (σ : St) : Option Int32 :=
  bn1 (fMath_max_I N 0 ((σ.1 84 kv kp 0) - 1) σ) fun r1 =>
  some (r1 * 11)
def fLaw_param (N : Nat) (kv : Nat) (x1 : Int32) (x2 : Int32) (σ : St) : Option Int32 :=
  chk (inb x2 936) <|
  chk (inb (σ.1 63 kv 0 x2.toNatClampNeg) 35) <|
  chk (inb x1 8) <|
  some (σ.1 64 kv ((σ.1 63 kv 0 x2.toNatClampNeg).toNatClampNeg) x1.toNatClampNeg)
def fLife_stampsAhead_17 (N : Nat) (kv kp : Nat) : Nat → Int32 → Int32 → Int32 → St → Option Int32
  | 0, _, _, _, _ => none
  | n+1, x2, x3, x4, σ =>
    if x3 ≤ x4 then
      some x2
    else
      chk (inb x4 156) <|
      bn1 (fMath_max_I N 0 (σ.1 80 kv kp x4.toNatClampNeg) σ) fun r1 =>
      nm ((x2 + r1)) fun (y2 : Int32) =>
      (fLife_stampsAhead_17 N kv kp n) y2 x3 (x4 + 1) σ
def fLife_stampsAhead (N : Nat) (kv kp : Nat) (x1 : Int32) (σ : St) : Option Int32 :=
  nm ((x1 / 6)) fun (y1 : Int32) =>
  bn1 (fMath_max_I N 0 (y1 - 52) σ) fun r2 =>
  fLife_stampsAhead_17 N kv kp N 0 y1 r2 σ
def fLife_unknownAhead_40 (N : Nat) (kv kp : Nat) (go17 : Int32 → Int32 → Int32 → St → Option Int32) (x3 : Int32) (x4 : Int32) (s0 : Int32) (s1 : Int32) (σ : St) : Option Int32 :=
  nm ((s0 + s1)) fun (y1 : Int32) =>
  go17 y1 x3 (x4 + 1) σ
def fLife_unknownAhead_17 (N : Nat) (kv kp : Nat) : Nat → Int32 → Int32 → Int32 → St → Option Int32
  | 0, _, _, _, _ => none
  | n+1, x2, x3, x4, σ =>
    if x3 ≤ x4 then
      some x2
    else
      chk (inb x4 156) <|
      if (σ.1 80 kv kp x4.toNatClampNeg) = (-1) then
        fLife_unknownAhead_40 N kv kp (fLife_unknownAhead_17 N kv kp n) x3 x4 x2 1 σ
      else
        fLife_unknownAhead_40 N kv kp (fLife_unknownAhead_17 N kv kp n) x3 x4 x2 0 σ
def fLife_unknownAhead (N : Nat) (kv kp : Nat) (x1 : Int32) (σ : St) : Option Int32 :=
  nm ((x1 / 6)) fun (y1 : Int32) =>
  bn1 (fMath_max_I N 0 (y1 - 52) σ) fun r2 =>
  fLife_unknownAhead_17 N kv kp N 0 y1 r2 σ
def fLife_setOut_214 (N : Nat) (kv kp : Nat) (s1 : Int32) (s2 : Int64) (σ : St) : Option St :=
  chk (inb s1 20) <|
  nm (sJ σ 72 kv 0 s1.toNatClampNeg s2) fun (σ1 : St) =>
  nm (sJ σ1 72 kv 0 15 (σ1.1 94 kv kp 0).toInt64) fun (σ2 : St) =>
  nm (sJ σ2 72 kv 0 16 (σ2.1 92 kv kp 0).toInt64) fun (σ3 : St) =>
  nm (sJ σ3 72 kv 0 17 0) fun (σ4 : St) =>
  nm (sJ σ4 72 kv 0 18 0) fun (σ5 : St) =>
  nm (sJ σ5 72 kv 0 19 0) fun (σ6 : St) =>
  some σ6
def fLife_setOut_184 (N : Nat) (kv kp : Nat) (x1 : Int32) (x3 : Int32) (s1 : Int32) (s2 : Int64) (σ : St) : Option St :=
  chk (inb s1 20) <|
  nm (sJ σ 72 kv 0 s1.toNatClampNeg s2) fun (σ1 : St) =>
  if (σ1.1 85 kv kp 0) = 0 then
    bn1 (fLife_unknownAhead N kv kp x1 σ1) fun r2 =>
    fLife_setOut_214 N kv kp 14 r2.toInt64 σ1
  else
    chk (inb (x3 + 10) 605) <|
    fLife_setOut_214 N kv kp 14 ((σ1.1 79 kv kp (x3 + 10).toNatClampNeg).toInt64) σ1
def fLife_setOut_154 (N : Nat) (kv kp : Nat) (x1 : Int32) (x3 : Int32) (s1 : Int32) (s2 : Int64) (σ : St) : Option St :=
  chk (inb s1 20) <|
  nm (sJ σ 72 kv 0 s1.toNatClampNeg s2) fun (σ1 : St) =>
  if (σ1.1 85 kv kp 0) = 0 then
    bn1 (fLife_stampsAhead N kv kp x1 σ1) fun r2 =>
    fLife_setOut_184 N kv kp x1 x3 13 r2.toInt64 σ1
  else
    chk (inb (x3 + 9) 605) <|
    fLife_setOut_184 N kv kp x1 x3 13 ((σ1.1 79 kv kp (x3 + 9).toNatClampNeg).toInt64) σ1
def fLife_setOut_112 (N : Nat) (kv kp : Nat) (x1 : Int32) (x3 : Int32) (s1 : Int32) (s2 : Int64) (σ : St) : Option St :=
  chk (inb s1 20) <|
  nm (sJ σ 72 kv 0 s1.toNatClampNeg s2) fun (σ1 : St) =>
  if (σ1.1 85 kv kp 0) = 0 then
    fLife_setOut_154 N kv kp x1 x3 12 0 σ1
  else
    chk (inb (x3 + 3) 605) <|
    chk (inb (x3 + 4) 605) <|
    chk (inb (x3 + 5) 605) <|
    fLife_setOut_154 N kv kp x1 x3 12 ((((σ1.1 79 kv kp (x3 + 3).toNatClampNeg) + (σ1.1 79 kv kp (x3 + 4).toNatClampNeg)) + (σ1.1 79 kv kp (x3 + 5).toNatClampNeg)).toInt64) σ1
def fLife_setOut_101 (N : Nat) (kv kp : Nat) (x1 : Int32) (x3 : Int32) (s1 : Int32) (σ : St) : Option St :=
  fLife_setOut_112 N kv kp x1 x3 s1 0 σ
def fLife_setOut_10 (N : Nat) (kv kp : Nat) : Nat → Int32 → Int32 → St → Option St
  | 0, _, _, _ => none
  | n+1, x1, x3, σ =>
    if 8 ≤ x3 then
      bn1 (fLife_rowOfLatest N kv kp σ) fun r1 =>
      chk (inb (σ.1 74 kv kp 0) 20) <|
      nm (sJ σ 72 kv 0 8 (σ.1 48 0 0 (σ.1 74 kv kp 0).toNatClampNeg).toInt64) fun (σ2 : St) =>
      chk (inb (σ2.1 74 kv kp 0) 20) <|
      nm (sJ σ2 72 kv 0 9 (σ2.1 47 0 0 (σ2.1 74 kv kp 0).toNatClampNeg).toInt64) fun (σ3 : St) =>
      nm (sJ σ3 72 kv 0 10 (σ3.1 93 kv kp 0).toInt64) fun (σ4 : St) =>
      if (σ4.1 87 kv kp 0) = 0 then
        if (σ4.1 91 kv kp 0) = (-1) then
          fLife_setOut_101 N kv kp x1 r1 11 σ4
        else
          fLife_setOut_112 N kv kp x1 r1 11 ((x1 - (σ4.1 91 kv kp 0)).toInt64) σ4
      else
        fLife_setOut_101 N kv kp x1 r1 11 σ4
    else
      bn1 (fLaw_param N kv x3 x1 σ) fun r5 =>
      chk (inb x3 20) <|
      nm (sJ σ 72 kv 0 x3.toNatClampNeg r5.toInt64) fun (σ6 : St) =>
      (fLife_setOut_10 N kv kp n) x1 (x3 + 1) σ6
def fLife_setOut (N : Nat) (kv kp : Nat) (x1 : Int32) (σ : St) : Option St :=
  fLife_setOut_10 N kv kp N x1 0 σ
def fAct_join_156 (N : Nat) (σ : St) : Option Int64 :=
  some 1
def fAct_join (N : Nat) (x0 : Int32) (x1 : Int64) (x3 : Int64) (σ : St) : Option Int64 :=
  if x0 = (-61) then
    if (lg_cmp x1 x3) = 0 then
      some 1
    else
      some 0
  else
  if x0 = (-60) then
    if 0 ≤ (lg_cmp x1 x3) then
      some 0
    else
      some 1
  else
  if x0 = (-47) then
    if (lg_cmp x3 0) = 0 then
      some 0
    else
      chk (¬ x3 = 0) <|
      some (x1 / x3)
  else
  if x0 = (-45) then
    some (x1 - x3)
  else
  if x0 = (-43) then
    some (x1 + x3)
  else
  if x0 = (-42) then
    some (x1 * x3)
  else
  if x0 = (-3) then
    if (lg_cmp x1 0) = 0 then
      some 0
    else
      if (lg_cmp x3 0) = 0 then
        some 0
      else
        some 1
  else
  if x0 = (-2) then
    if (lg_cmp x1 0) = 0 then
      if (lg_cmp x3 0) = 0 then
        some 0
      else
        fAct_join_156 N σ
    else
      fAct_join_156 N σ
  else
  if (lg_cmp x3 0) = 0 then
    some x1
  else
    some 0
def fAct_work_74 (N : Nat) (ka k2_0 k3_0 : Nat) (go10 : Int32 → Int32 → St → Option (Int64 × St)) (x4 : Int32) (x5 : Int32) (s1 : Int32) (s2 : Int64) (σ : St) : Option (Int64 × St) :=
  chk (inb s1 40) <|
  nm (sJ σ 73 k3_0 0 s1.toNatClampNeg s2) fun (σ1 : St) =>
  go10 (x4 + 1) (x5 + 1) σ1
def fAct_work_114 (N : Nat) (ka k2_0 k3_0 : Nat) (go10 : Int32 → Int32 → St → Option (Int64 × St)) (x4 : Int32) (x5 : Int32) (s1 : Int32) (s2 : Int64) (σ : St) : Option (Int64 × St) :=
  chk (inb s1 40) <|
  nm (sJ σ 73 k3_0 0 s1.toNatClampNeg s2) fun (σ1 : St) =>
  go10 x4 (x5 + 1) σ1
def fAct_work_154 (N : Nat) (ka k2_0 k3_0 : Nat) (x4 : Int32) (σ : St) : Option (Int64 × St) :=
  if x4 ≤ 0 then
    some (0, σ)
  else
    chk (inb (x4 - 1) 40) <|
    some ((σ.2 73 k3_0 0 (x4 - 1).toNatClampNeg), σ)
def fAct_work_10 (N : Nat) (ka k2_0 k3_0 : Nat) : Nat → Int32 → Int32 → St → Option (Int64 × St)
  | 0, _, _, _ => none
  | n+1, x4, x5, σ =>
    if (σ.1 2 ka 0 0) ≤ x5 then
      fAct_work_154 N ka k2_0 k3_0 x4 σ
    else
      chk (inb x5 600) <|
      if (σ.1 1 ka 0 x5.toNatClampNeg) = (-1) then
        fAct_work_154 N ka k2_0 k3_0 x4 σ
      else
        nm ((σ.1 1 ka 0 x5.toNatClampNeg)) fun (y1 : Int32) =>
        if y1 < 0 then
          if y1 = (-4) then
            if x4 ≤ 0 then
              (fAct_work_10 N ka k2_0 k3_0 n) x4 (x5 + 1) σ
            else
              chk (inb (x4 - 1) 40) <|
              if (lg_cmp (σ.2 73 k3_0 0 (x4 - 1).toNatClampNeg) 0) = 0 then
                fAct_work_114 N ka k2_0 k3_0 (fAct_work_10 N ka k2_0 k3_0 n) x4 x5 (x4 - 1) 1 σ
              else
                fAct_work_114 N ka k2_0 k3_0 (fAct_work_10 N ka k2_0 k3_0 n) x4 x5 (x4 - 1) 0 σ
          else
            if x4 ≤ 1 then
              (fAct_work_10 N ka k2_0 k3_0 n) x4 (x5 + 1) σ
            else
              chk (inb ((x4 + (-1)) - 1) 40) <|
              chk (inb (x4 + (-1)) 40) <|
              bn1 (fAct_join N y1 (σ.2 73 k3_0 0 ((x4 + (-1)) - 1).toNatClampNeg) (σ.2 73 k3_0 0 (x4 + (-1)).toNatClampNeg) σ) fun r2 =>
              nm (sJ σ 73 k3_0 0 ((x4 + (-1)) - 1).toNatClampNeg r2) fun (σ3 : St) =>
              (fAct_work_10 N ka k2_0 k3_0 n) (x4 + (-1)) (x5 + 1) σ3
        else
          if 40 ≤ x4 then
            (fAct_work_10 N ka k2_0 k3_0 n) x4 (x5 + 1) σ
          else
            if 100000 ≤ y1 then
              chk (inb (y1 - 100000) 20) <|
              fAct_work_74 N ka k2_0 k3_0 (fAct_work_10 N ka k2_0 k3_0 n) x4 x5 x4 (σ.2 72 k2_0 0 (y1 - 100000).toNatClampNeg) σ
            else
              fAct_work_74 N ka k2_0 k3_0 (fAct_work_10 N ka k2_0 k3_0 n) x4 x5 x4 y1.toInt64 σ
def fAct_work (N : Nat) (ka k2_0 k3_0 : Nat) (x1 : Int32) (σ : St) : Option (Int64 × St) :=
  bn1 (fMath_max_I N 0 x1 σ) fun r1 =>
  fAct_work_10 N ka k2_0 k3_0 N 0 r1 σ
def fMath_min_J (N : Nat) (x0 : Int64) (x2 : Int64) (σ : St) : Option Int64 :=
  if 0 < (lg_cmp x0 x2) then
    some x2
  else
    some x0
def fMath_max_J (N : Nat) (x0 : Int64) (x2 : Int64) (σ : St) : Option Int64 :=
  if (lg_cmp x0 x2) < 0 then
    some x2
  else
    some x0
def fLaw_limited (N : Nat) (x0 : Int64) (σ : St) : Option Int32 :=
  bn1 (fMath_min_J N 9999 x0 σ) fun r1 =>
  bn1 (fMath_max_J N 0 r1 σ) fun r2 =>
  some r2.toInt32
def fLaw_barDays_37 (N : Nat) (kv : Nat) (go9 : Int32 → Int32 → St → Option (Int32 × St)) : Nat → Int32 → Int32 → Nat → Int32 → St → Option (Int32 × St)
  | 0, _, _, _, _, _ => none
  | n+1, x2, x3, k4_0, x5, σ =>
    if (σ.1 12 k4_0 0 0) ≤ x5 then
      go9 x2 (x3 + 1) σ
    else
      chk (inb x5 24) <|
      bnd (fAct_work N k4_0 kv kv (σ.1 10 k4_0 0 x5.toNatClampNeg) σ) fun r1 σ2 =>
      if (lg_cmp r1 0) = 0 then
        (fLaw_barDays_37 N kv go9 n) x2 x3 k4_0 (x5 + 1) σ2
      else
        bn1 (fLaw_limited N ((σ2.1 11 k4_0 0 x5.toNatClampNeg).toInt64) σ2) fun r3 =>
        some (r3, σ2)
def fLaw_barDays_9 (N : Nat) (kv : Nat) : Nat → Int32 → Int32 → St → Option (Int32 × St)
  | 0, _, _, _ => none
  | n+1, x2, x3, σ =>
    chk (inb x2 35) <|
    if (σ.1 66 kv 0 x2.toNatClampNeg) ≤ x3 then
      nm ((σ.1 70 kv 0 x2.toNatClampNeg)) fun (y1 : Int32) =>
      if y1 = (-1) then
        some (0, σ)
      else
        chk (inb y1 17) <|
        bnd (fAct_work N y1.toNatClampNeg kv kv (σ.1 7 (y1.toNatClampNeg) 0 0) σ) fun r2 σ3 =>
        bn1 (fLaw_limited N r2 σ3) fun r4 =>
        some (r4, σ3)
    else
      chk (inb x3 17) <|
      chk (inb (σ.1 65 kv (x2.toNatClampNeg) x3.toNatClampNeg) 17) <|
      fLaw_barDays_37 N kv (fLaw_barDays_9 N kv n) N x2 x3 ((σ.1 65 kv (x2.toNatClampNeg) x3.toNatClampNeg).toNatClampNeg) 0 σ
def fLaw_barDays (N : Nat) (kv : Nat) (x1 : Int32) (σ : St) : Option (Int32 × St) :=
  chk (inb x1 936) <|
  nm ((σ.1 63 kv 0 x1.toNatClampNeg)) fun (y1 : Int32) =>
  fLaw_barDays_9 N kv N y1 0 σ
def fLife_leaves (N : Nat) (kv kp : Nat) (x1 : Int32) (x2 : Int32) (x3 : Int32) (σ : St) : Option (Int32 × St) :=
  if (σ.1 87 kv kp 0) = 0 then
    some (0, σ)
  else
    nm (sI σ 87 kv kp 0 0) fun (σ1 : St) =>
    nm (sI σ1 89 kv kp 0 0) fun (σ2 : St) =>
    nm (sI σ2 91 kv kp 0 x2) fun (σ3 : St) =>
    nm (sI σ3 92 kv kp 0 x1) fun (σ4 : St) =>
    if x3 = 0 then
      bn1 (fLife_setOut N kv kp x2 σ4) fun σ5 =>
      bnd (fLaw_barDays N kv x2 σ5) fun r6 σ7 =>
      bn1 (fMath_max_I N (σ5.1 90 kv kp 0) ((x2 + r6) - 1) σ7) fun r8 =>
      nm (sI σ7 90 kv kp 0 r8) fun (σ9 : St) =>
      some (1, σ9)
    else
      some (1, σ4)
def fLife_closeClaim (N : Nat) (kv kp : Nat) (x1 : Int32) (σ : St) : Option St :=
  if (σ.1 85 kv kp 0) = 0 then
    some σ
  else
    nm (sI σ 85 kv kp 0 0) fun (σ1 : St) =>
    nm (sI σ1 86 kv kp 0 x1) fun (σ2 : St) =>
    bn1 (fLife_rowOfLatest N kv kp σ2) fun r3 =>
    chk (inb (r3 + 8) 605) <|
    nm (sI σ2 79 kv kp (r3 + 8).toNatClampNeg 0) fun (σ4 : St) =>
    some σ4
def fLife_isHired (N : Nat) (kv kp : Nat) (x1 : Int32) (x2 : Int32) (σ : St) : Option (Int32 × St) :=
  if (σ.1 87 kv kp 0) = 0 then
    if (σ.1 88 kv kp 0) = 0 then
      nm (sI σ 87 kv kp 0 1) fun (σ1 : St) =>
      nm (sI σ1 93 kv kp 0 x1) fun (σ2 : St) =>
      bn1 (fLife_closeClaim N kv kp x2 σ2) fun σ3 =>
      some (1, σ3)
    else
      some (0, σ)
  else
    some (0, σ)
def fLaw_insures (N : Nat) (kv : Nat) (x1 : Int32) (x2 : Int32) (σ : St) : Option Int32 :=
  chk (inb x2 936) <|
  chk (inb (σ.1 63 kv 0 x2.toNatClampNeg) 35) <|
  if (((σ.1 67 kv 0 (σ.1 63 kv 0 x2.toNatClampNeg).toNatClampNeg) >>> (x1 &&& 31)) &&& 1) = 0 then
    some 0
  else
    some 1
def fLife_startClaim_24 (N : Nat) (kv kp : Nat) : Nat → Int32 → Int32 → Int32 → Int32 → Int32 → St → Option St
  | 0, _, _, _, _, _, _ => none
  | n+1, x1, x2, x3, x4, x5, σ =>
    if 11 ≤ x5 then
      chk (inb (x1 + 0) 605) <|
      nm (sI σ 79 kv kp (x1 + 0).toNatClampNeg x2) fun (σ1 : St) =>
      chk (¬ x4 = 0) <|
      bn1 (fLaw_param N kv 3 x2 σ1) fun r2 =>
      bn1 (fMath_min_I N (x3 / x4) r2 σ1) fun r3 =>
      chk (inb (x1 + 1) 605) <|
      nm (sI σ1 79 kv kp (x1 + 1).toNatClampNeg r3) fun (σ4 : St) =>
      chk (inb (x1 + 9) 605) <|
      nm (sI σ4 79 kv kp (x1 + 9).toNatClampNeg x3) fun (σ5 : St) =>
      bn1 (fLife_unknownAhead N kv kp x2 σ5) fun r6 =>
      chk (inb (x1 + 10) 605) <|
      nm (sI σ5 79 kv kp (x1 + 10).toNatClampNeg r6) fun (σ7 : St) =>
      some σ7
    else
      chk (inb (x1 + x5) 605) <|
      nm (sI σ 79 kv kp (x1 + x5).toNatClampNeg 0) fun (σ8 : St) =>
      (fLife_startClaim_24 N kv kp n) x1 x2 x3 x4 (x5 + 1) σ8
def fLife_startClaim (N : Nat) (kv kp : Nat) (x1 : Int32) (x2 : Int32) (σ : St) : Option St :=
  bn1 (fLife_stampsAhead N kv kp x2 σ) fun r1 =>
  bn1 (fLaw_param N kv 4 x2 σ) fun r2 =>
  bn1 (fMath_max_I N 1 r2 σ) fun r3 =>
  fLife_startClaim_24 N kv kp N x1 x2 r1 r3 0 σ
def fLife_signs_125 (N : Nat) (kv kp : Nat) (σ : St) : Option (Int32 × St) :=
  nm (sI σ 85 kv kp 0 1) fun (σ1 : St) =>
  bn1 (fLife_rowOfLatest N kv kp σ1) fun r2 =>
  chk (inb (r2 + 8) 605) <|
  nm (sI σ1 79 kv kp (r2 + 8).toNatClampNeg 1) fun (σ3 : St) =>
  some (1, σ3)
def fLife_signs_97 (N : Nat) (kv kp : Nat) (x1 : Int32) (σ : St) : Option (Int32 × St) :=
  if 55 ≤ (σ.1 84 kv kp 0) then
    fLife_signs_125 N kv kp σ
  else
    nm (sI σ 84 kv kp 0 ((σ.1 84 kv kp 0) + 1)) fun (σ1 : St) =>
    bn1 (fLife_rowOfLatest N kv kp σ1) fun r2 =>
    bn1 (fLife_startClaim N kv kp r2 x1 σ1) fun σ3 =>
    fLife_signs_125 N kv kp σ3
def fLife_signs_14 (N : Nat) (kv kp : Nat) (x1 : Int32) (σ : St) : Option (Int32 × St) :=
  if (σ.1 88 kv kp 0) = 0 then
    if (σ.1 85 kv kp 0) = 0 then
      chk (inb (σ.1 74 kv kp 0) 20) <|
      bn1 (fLaw_insures N kv (σ.1 47 0 0 (σ.1 74 kv kp 0).toNatClampNeg) x1 σ) fun r1 =>
      if r1 = 0 then
        some (0, σ)
      else
        if (σ.1 84 kv kp 0) ≤ 0 then
          fLife_signs_97 N kv kp x1 σ
        else
          bn1 (fLaw_param N kv 1 x1 σ) fun r2 =>
          if r2 < (x1 - (σ.1 86 kv kp 0)) then
            fLife_signs_97 N kv kp x1 σ
          else
            bn1 (fLife_rowOfLatest N kv kp σ) fun r3 =>
            chk (inb (r3 + 7) 605) <|
            nm (sI σ 79 kv kp (r3 + 7).toNatClampNeg ((σ.1 79 kv kp (r3 + 7).toNatClampNeg) + 1)) fun (σ4 : St) =>
            fLife_signs_125 N kv kp σ4
    else
      some (0, σ)
  else
    some (0, σ)
def fLife_signs (N : Nat) (kv kp : Nat) (x1 : Int32) (σ : St) : Option (Int32 × St) :=
  if (σ.1 87 kv kp 0) = 0 then
    fLife_signs_14 N kv kp x1 σ
  else
    if (σ.1 89 kv kp 0) = 0 then
      some (0, σ)
    else
      fLife_signs_14 N kv kp x1 σ
def fLife_goesAway (N : Nat) (kv kp : Nat) (x1 : Int32) (σ : St) : Option (Int32 × St) :=
  if (σ.1 88 kv kp 0) = 0 then
    bn1 (fLife_closeClaim N kv kp x1 σ) fun σ1 =>
    nm (sI σ1 88 kv kp 0 1) fun (σ2 : St) =>
    some (1, σ2)
  else
    some (0, σ)
def fLife_comesBack (N : Nat) (kv kp : Nat) (σ : St) : Option (Int32 × St) :=
  nm ((σ.1 88 kv kp 0)) fun (y1 : Int32) =>
  nm (sI σ 88 kv kp 0 0) fun (σ2 : St) =>
  some ((y1 &&& 1), σ2)
def fLife_goesShort_42 (N : Nat) (kv kp : Nat) (x2 : Int32) (x3 : Int32) (s1 : Int32) (σ : St) : Option (Int32 × St) :=
  nm (sI σ 89 kv kp 0 s1) fun (σ1 : St) =>
  if x3 = 0 then
    some (1, σ1)
  else
    bn1 (fLife_closeClaim N kv kp x2 σ1) fun σ2 =>
    some (1, σ2)
def fLife_goesShort_32 (N : Nat) (kv kp : Nat) (x1 : Int32) (x2 : Int32) (x3 : Int32) (σ : St) : Option (Int32 × St) :=
  if x3 = 0 then
    fLife_goesShort_42 N kv kp x2 x3 x1 σ
  else
    fLife_goesShort_42 N kv kp x2 x3 0 σ
def fLife_goesShort_11 (N : Nat) (kv kp : Nat) (x1 : Int32) (x2 : Int32) (s0 : Int32) (σ : St) : Option (Int32 × St) :=
  if (σ.1 87 kv kp 0) = 0 then
    some (0, σ)
  else
    if s0 = 0 then
      fLife_goesShort_32 N kv kp x1 x2 s0 σ
    else
      if (σ.1 89 kv kp 0) = 0 then
        some (0, σ)
      else
        fLife_goesShort_32 N kv kp x1 x2 s0 σ
def fLife_goesShort (N : Nat) (kv kp : Nat) (x1 : Int32) (x2 : Int32) (σ : St) : Option (Int32 × St) :=
  if x1 = 6 then
    fLife_goesShort_11 N kv kp x1 x2 1 σ
  else
    fLife_goesShort_11 N kv kp x1 x2 0 σ
def fMarket_wasSuitable (N : Nat) (x1 : Int32) (x2 : Int32) (σ : St) : Option Int32 :=
  if x1 < 0 then
    some 0
  else
    if (σ.1 107 0 0 0) ≤ x1 then
      some 0
    else
      chk (inb x1 60) <|
      if (σ.1 103 0 0 x1.toNatClampNeg) = x2 then
        if (σ.1 105 0 0 x1.toNatClampNeg) = (-1) then
          some 1
        else
          some 0
      else
        some 0
def fMath_abs_I (N : Nat) (x0 : Int32) (σ : St) : Option Int32 :=
  if 0 ≤ x0 then
    some x0
  else
    some (-x0)
def fLand_miles (N : Nat) (x1 : Int32) (x2 : Int32) (σ : St) : Option Int32 :=
  chk (inb x1 8) <|
  chk (inb x2 8) <|
  bn1 (fMath_abs_I N ((σ.1 44 0 0 x1.toNatClampNeg) - (σ.1 44 0 0 x2.toNatClampNeg)) σ) fun r1 =>
  bn1 (fMath_abs_I N ((σ.1 45 0 0 x1.toNatClampNeg) - (σ.1 45 0 0 x2.toNatClampNeg)) σ) fun r2 =>
  some (r1 + r2)
def fMarket_setOutVacancy_64 (N : Nat) (k3_0 : Nat) (s1 : Int32) (s2 : Int64) (σ : St) : Option St :=
  chk (inb s1 20) <|
  nm (sJ σ 72 k3_0 0 s1.toNatClampNeg s2) fun (σ1 : St) =>
  some σ1
def fMarket_setOutVacancy (N : Nat) (k3_0 : Nat) (x1 : Int32) (x2 : Int32) (σ : St) : Option St :=
  chk (inb x1 20) <|
  chk (inb x2 24) <|
  bn1 (fLand_miles N (σ.1 49 0 0 x1.toNatClampNeg) (σ.1 96 0 0 x2.toNatClampNeg) σ) fun r1 =>
  nm (sJ σ 72 k3_0 0 17 r1.toInt64) fun (σ2 : St) =>
  nm (sJ σ2 72 k3_0 0 18 (σ2.1 98 0 0 x2.toNatClampNeg).toInt64) fun (σ3 : St) =>
  if (σ3.1 97 0 0 x2.toNatClampNeg) = (σ3.1 47 0 0 x1.toNatClampNeg) then
    fMarket_setOutVacancy_64 N k3_0 19 1 σ3
  else
    fMarket_setOutVacancy_64 N k3_0 19 0 σ3
def fLife_refuses (N : Nat) (kv kp : Nat) (x1 : Int32) (x2 : Int32) (x3 : Int32) (σ : St) : Option (Int32 × St) :=
  if (σ.1 85 kv kp 0) = 0 then
    some (0, σ)
  else
    bn1 (fMarket_wasSuitable N x1 (σ.1 74 kv kp 0) σ) fun r1 =>
    if r1 = 0 then
      some (0, σ)
    else
      if x3 = 0 then
        bn1 (fLife_setOut N kv kp x2 σ) fun σ2 =>
        nm (sJ σ2 72 kv 0 16 4) fun (σ3 : St) =>
        chk (inb x1 60) <|
        bn1 (fMarket_setOutVacancy N kv (σ3.1 74 kv kp 0) (σ3.1 104 0 0 x1.toNatClampNeg) σ3) fun σ4 =>
        bnd (fLaw_barDays N kv x2 σ4) fun r5 σ6 =>
        bn1 (fMath_max_I N (σ4.1 90 kv kp 0) ((x2 + r5) - 1) σ6) fun r7 =>
        nm (sI σ6 90 kv kp 0 r7) fun (σ8 : St) =>
        some (1, σ8)
      else
        some (1, σ)
def fLife_meets (N : Nat) (kv kp : Nat) (x1 : Int32) (x2 : Int32) (x3 : Int32) (x4 : Int32) (σ : St) : Option (Int32 × St) :=
  if x1 = 0 then
    bnd (fLife_leaves N kv kp x2 x3 x4 σ) fun r1 σ2 =>
    some ((r1 &&& 1), σ2)
  else
  if x1 = 1 then
    bnd (fLife_isHired N kv kp x2 x3 σ) fun r3 σ4 =>
    some ((r3 &&& 1), σ4)
  else
  if x1 = 2 then
    bnd (fLife_signs N kv kp x3 σ) fun r5 σ6 =>
    some ((r5 &&& 1), σ6)
  else
  if x1 = 3 then
    bnd (fLife_goesAway N kv kp x3 σ) fun r7 σ8 =>
    some ((r7 &&& 1), σ8)
  else
  if x1 = 4 then
    bnd (fLife_comesBack N kv kp σ) fun r9 σ10 =>
    some ((r9 &&& 1), σ10)
  else
  if x1 = 5 then
    nm (sI σ 94 kv kp 0 x2) fun (σ11 : St) =>
    some (1, σ11)
  else
  if x1 = 6 then
    bnd (fLife_goesShort N kv kp x2 x3 σ) fun r12 σ13 =>
    some ((r12 &&& 1), σ13)
  else
  if x1 = 7 then
    bnd (fLife_refuses N kv kp x2 x3 x4 σ) fun r14 σ15 =>
    some ((r14 &&& 1), σ15)
  else
  some (0, σ)
def fLife_kindOfClaim (N : Nat) (kv kp : Nat) (x1 : Int32) (σ : St) : Option Int32 :=
  bn1 (fLife_rowOfLatest N kv kp σ) fun r1 =>
  if (σ.1 89 kv kp 0) ≤ (irem x1 6) then
    if (σ.1 90 kv kp 0) < x1 then
      chk (inb (r1 + 2) 605) <|
      bn1 (fLaw_param N kv 0 x1 σ) fun r2 =>
      if r2 ≤ (σ.1 79 kv kp (r1 + 2).toNatClampNeg) then
        chk (inb (r1 + 3) 605) <|
        chk (inb (r1 + 1) 605) <|
        if (σ.1 79 kv kp (r1 + 1).toNatClampNeg) ≤ (σ.1 79 kv kp (r1 + 3).toNatClampNeg) then
          chk (inb (r1 + 4) 605) <|
          bn1 (fLaw_param N kv 5 x1 σ) fun r3 =>
          if r3 ≤ (σ.1 79 kv kp (r1 + 4).toNatClampNeg) then
            some 5
          else
            some 4
        else
          some 3
      else
        some 2
    else
      some 1
  else
    some 6
def fLaw_payingAct (N : Nat) (kv : Nat) (x1 : Int32) (x2 : Int32) (σ : St) : Option Int32 :=
  chk (inb x2 936) <|
  nm ((σ.1 63 kv 0 x2.toNatClampNeg)) fun (y1 : Int32) =>
  if x1 = 5 then
    chk (inb y1 35) <|
    some (σ.1 69 kv 0 y1.toNatClampNeg)
  else
    chk (inb y1 35) <|
    some (σ.1 68 kv 0 y1.toNatClampNeg)
def fLaw_payFor_92 (N : Nat) (kv : Nat) (s0 : Int64) (σ : St) : Option (Int32 × St) :=
  bn1 (fLaw_limited N s0 σ) fun r1 =>
  some (r1, σ)
def fLaw_payFor (N : Nat) (kv : Nat) (x1 : Int32) (x2 : Int32) (σ : St) : Option (Int32 × St) :=
  bn1 (fLaw_payingAct N kv x1 x2 σ) fun r1 =>
  if x1 = 5 then
    if r1 = (-1) then
      some (0, σ)
    else
      chk (inb r1 17) <|
      bnd (fAct_work N r1.toNatClampNeg kv kv (σ.1 6 (r1.toNatClampNeg) 0 0) σ) fun r5 σ6 =>
      bn1 (fLaw_limited N r5 σ6) fun r7 =>
      some (r7, σ6)
  else
    if r1 = (-1) then
      bn1 (fLaw_param N kv 2 x2 σ) fun r4 =>
      fLaw_payFor_92 N kv r4.toInt64 σ
    else
      chk (inb r1 17) <|
      bnd (fAct_work N r1.toNatClampNeg kv kv (σ.1 5 (r1.toNatClampNeg) 0 0) σ) fun r2 σ3 =>
      fLaw_payFor_92 N kv r2 σ3
def fLife_countInClaim_73 (N : Nat) (kv kp : Nat) (x1 : Int32) (σ : St) : Option St :=
  if x1 = 0 then
    nm (sI σ 81 kv kp 2 ((σ.1 81 kv kp 2) + 1)) fun (σ1 : St) =>
    some σ1
  else
    some σ
def fLife_countInClaim_27 (N : Nat) (kv kp : Nat) (x1 : Int32) (x2 : Int32) (x3 : Int32) (σ : St) : Option St :=
  chk (inb (x3 + 6) 605) <|
  nm (sI σ 79 kv kp (x3 + 6).toNatClampNeg ((σ.1 79 kv kp (x3 + 6).toNatClampNeg) + x2)) fun (σ1 : St) =>
  nm (sI σ1 81 kv kp 0 ((σ1.1 81 kv kp 0) + x2)) fun (σ2 : St) =>
  if x1 < 3 then
    fLife_countInClaim_73 N kv kp x1 σ2
  else
    if 5 < x1 then
      fLife_countInClaim_73 N kv kp x1 σ2
    else
      nm (sI σ2 81 kv kp 1 ((σ2.1 81 kv kp 1) + 1)) fun (σ3 : St) =>
      some σ3
def fLife_countInClaim (N : Nat) (kv kp : Nat) (x1 : Int32) (x2 : Int32) (σ : St) : Option St :=
  bn1 (fLife_rowOfLatest N kv kp σ) fun r1 =>
  if x1 < 2 then
    fLife_countInClaim_27 N kv kp x1 x2 r1 σ
  else
    if 5 < x1 then
      fLife_countInClaim_27 N kv kp x1 x2 r1 σ
    else
      chk (inb (r1 + x1) 605) <|
      nm (sI σ 79 kv kp (r1 + x1).toNatClampNeg ((σ.1 79 kv kp (r1 + x1).toNatClampNeg) + 1)) fun (σ2 : St) =>
      fLife_countInClaim_27 N kv kp x1 x2 r1 σ2
def fLife_pass_132 (N : Nat) (kv kp : Nat) (x1 : Int32) (x2 : Int32) (x3 : Int32) (x4 : Int32) (s0 : Int32) (σ : St) : Option St :=
  chk (inb (x1 - 312) 624) <|
  nm (sI σ 78 kv kp (x1 - 312).toNatClampNeg (((x2 ||| (x3 <<< (4 &&& 31))) ||| ((x4 + 1) <<< (18 &&& 31))) ||| ((s0 + 1) <<< (23 &&& 31)))) fun (σ1 : St) =>
  nm (sI σ1 83 kv kp 0 x1) fun (σ2 : St) =>
  some σ2
def fLife_pass_115 (N : Nat) (kv kp : Nat) (x1 : Int32) (x2 : Int32) (x3 : Int32) (x4 : Int32) (σ : St) : Option St :=
  if (σ.1 85 kv kp 0) = 0 then
    fLife_pass_132 N kv kp x1 x2 x3 x4 (-1) σ
  else
    fLife_pass_132 N kv kp x1 x2 x3 x4 ((σ.1 84 kv kp 0) - 1) σ
def fLife_pass_102 (N : Nat) (kv kp : Nat) (x1 : Int32) (x2 : Int32) (x3 : Int32) (x4 : Int32) (σ : St) : Option St :=
  if (σ.1 85 kv kp 0) = 0 then
    fLife_pass_115 N kv kp x1 x2 x3 x4 σ
  else
    bn1 (fLife_countInClaim N kv kp x2 x3 σ) fun σ1 =>
    fLife_pass_115 N kv kp x1 x2 x3 x4 σ1
def fLife_pass_88 (N : Nat) (kv kp : Nat) (x1 : Int32) (x2 : Int32) (x3 : Int32) (x4 : Int32) (σ : St) : Option St :=
  if x2 = 5 then
    if x3 = 0 then
      fLife_pass_102 N kv kp x1 0 x3 (-1) σ
    else
      fLife_pass_102 N kv kp x1 x2 x3 x4 σ
  else
    fLife_pass_102 N kv kp x1 x2 x3 x4 σ
def fLife_pass_62 (N : Nat) (kv kp : Nat) (x1 : Int32) (x2 : Int32) (σ : St) : Option St :=
  bn1 (fLife_setOut N kv kp x1 σ) fun σ1 =>
  bnd (fLaw_payFor N kv x2 x1 σ1) fun r2 σ3 =>
  bn1 (fLaw_payingAct N kv x2 x1 σ3) fun r4 =>
  fLife_pass_88 N kv kp x1 x2 r2 r4 σ3
def fLife_pass_41 (N : Nat) (kv kp : Nat) (x1 : Int32) (s0 : Int32) (σ : St) : Option St :=
  if s0 = 3 then
    fLife_pass_62 N kv kp x1 s0 σ
  else
    if s0 = 4 then
      fLife_pass_62 N kv kp x1 s0 σ
    else
      if s0 = 5 then
        fLife_pass_62 N kv kp x1 s0 σ
      else
        fLife_pass_88 N kv kp x1 s0 0 (-1) σ
def fLife_pass (N : Nat) (kv kp : Nat) (x1 : Int32) (σ : St) : Option St :=
  if (σ.1 85 kv kp 0) = 0 then
    if (σ.1 88 kv kp 0) = 0 then
      if (σ.1 87 kv kp 0) = 0 then
        fLife_pass_41 N kv kp x1 9 σ
      else
        fLife_pass_41 N kv kp x1 7 σ
    else
      fLife_pass_41 N kv kp x1 8 σ
  else
    bn1 (fLife_kindOfClaim N kv kp x1 σ) fun r1 =>
    fLife_pass_41 N kv kp x1 r1 σ
def fView_lifeOf_183 (N : Nat) (kv : Nat) (go93 : Nat → Int32 → Int32 → Int32 → St → Option ((Nat × Nat) × St)) (k2_1 : Nat) (x3 : Int32) (x4 : Int32) (x5 : Int32) (σ : St) : Option ((Nat × Nat) × St) :=
  bn1 (fLife_pass N kv k2_1 x5 σ) fun σ1 =>
  go93 k2_1 x3 x4 (x5 + 1) σ1
def fView_lifeOf_102 (N : Nat) (kv : Nat) (go93 : Nat → Int32 → Int32 → Int32 → St → Option ((Nat × Nat) × St)) : Nat → Nat → Int32 → Int32 → Int32 → St → Option ((Nat × Nat) × St)
  | 0, _, _, _, _, _ => none
  | n+1, k2_1, x3, x4, x5, σ =>
    if x3 ≤ x4 then
      fView_lifeOf_183 N kv go93 k2_1 x3 x4 x5 σ
    else
      chk (inb x4 160) <|
      chk (inb (σ.1 146 kv 0 x4.toNatClampNeg) 160) <|
      if (σ.1 40 0 0 (σ.1 146 kv 0 x4.toNatClampNeg).toNatClampNeg) = x5 then
        nm ((σ.1 146 kv 0 x4.toNatClampNeg)) fun (y1 : Int32) =>
        chk (inb y1 160) <|
        bnd (fLife_meets N kv k2_1 (σ.1 37 0 0 y1.toNatClampNeg) (σ.1 39 0 0 y1.toNatClampNeg) x5 (σ.1 145 kv 0 y1.toNatClampNeg) σ) fun r2 σ3 =>
        nm (sI σ3 144 kv 0 y1.toNatClampNeg (r2 &&& 1)) fun (σ4 : St) =>
        (fView_lifeOf_102 N kv go93 n) k2_1 x3 (x4 + 1) x5 σ4
      else
        fView_lifeOf_183 N kv go93 k2_1 x3 x4 x5 σ
def fView_lifeOf_93 (N : Nat) (kv : Nat) : Nat → Nat → Int32 → Int32 → Int32 → St → Option ((Nat × Nat) × St)
  | 0, _, _, _, _, _ => none
  | n+1, k2_1, x3, x4, x5, σ =>
    if (σ.1 147 kv 0 0) < x5 then
      some ((kv, k2_1), σ)
    else
      fView_lifeOf_102 N kv (fView_lifeOf_93 N kv n) N k2_1 x3 x4 x5 σ
def fView_lifeOf_82 (N : Nat) (kv : Nat) (k2_1 : Nat) (x3 : Int32) (σ : St) : Option ((Nat × Nat) × St) :=
  nm (((σ.1 83 kv k2_1 0) + 1)) fun (y1 : Int32) =>
  fView_lifeOf_93 N kv N k2_1 x3 0 y1 σ
def fView_lifeOf_43 (N : Nat) (kv : Nat) (x1 : Int32) (k2_1 : Nat) (σ : St) : Option ((Nat × Nat) × St) :=
  bn1 (fLife_begin N kv k2_1 σ) fun σ1 =>
  chk (inb x1 20) <|
  nm (sI σ1 82 kv k2_1 0 (σ1.1 53 0 0 x1.toNatClampNeg)) fun (σ2 : St) =>
  bn1 (fBooks_copyStamps N kv k2_1 x1 (σ2.1 147 kv 0 0) σ2) fun σ3 =>
  bnd (fView_listEvents N kv x1 σ3) fun r4 σ5 =>
  fView_lifeOf_82 N kv k2_1 r4 σ5
def fView_lifeOf (N : Nat) (kv : Nat) (x1 : Int32) (σ : St) : Option ((Nat × Nat) × St) :=
  chk (inb x1 20) <|
  if (σ.1 82 kv (x1.toNatClampNeg) 0) = (σ.1 53 0 0 x1.toNatClampNeg) then
    if (σ.1 83 kv (x1.toNatClampNeg) 0) = (σ.1 147 kv 0 0) then
      fView_lifeOf_82 N kv x1.toNatClampNeg 0 σ
    else
      if (σ.1 142 kv 0 0) = 0 then
        fView_lifeOf_43 N kv x1 x1.toNatClampNeg σ
      else
        fView_lifeOf_82 N kv x1.toNatClampNeg 0 σ
  else
    fView_lifeOf_43 N kv x1 x1.toNatClampNeg σ
def fX_doesSomething (N : Nat) (x1 : Int32) (σ : St) : Option (Int32 × St) :=
  chk (inb x1 160) <|
  if (σ.1 37 0 0 x1.toNatClampNeg) = 8 then
    bn1 (fX_dayKnown N σ) fun r5 =>
    bn1 (fEvents_isKnown N x1 r5 σ) fun r6 =>
    some ((r6 &&& 1), σ)
  else
    bnd (fX_asOfTheDay N σ) fun r1 σ2 =>
    bnd (fView_lifeOf N r1 (σ2.1 38 0 0 x1.toNatClampNeg) σ2) fun r3 σ4 =>
    some (((σ4.1 144 r1 0 x1.toNatClampNeg) &&& 1), σ4)
def fX_told (N : Nat) (x1 : Int32) (x2 : Int32) (σ : St) : Option ((Option Int32) × St) :=
  btR (fX_requireElement N x1 (σ.1 43 0 0 0) σ) σ fun _ =>
  if x2 = 0 then
    chk (inb x1 160) <|
    some ((some (σ.1 37 0 0 x1.toNatClampNeg)), σ)
  else
  if x2 = 1 then
    chk (inb x1 160) <|
    some ((some (σ.1 38 0 0 x1.toNatClampNeg)), σ)
  else
  if x2 = 2 then
    chk (inb x1 160) <|
    some ((some (σ.1 39 0 0 x1.toNatClampNeg)), σ)
  else
  if x2 = 3 then
    chk (inb x1 160) <|
    some ((some (σ.1 40 0 0 x1.toNatClampNeg)), σ)
  else
  if x2 = 4 then
    chk (inb x1 160) <|
    some ((some (σ.1 41 0 0 x1.toNatClampNeg)), σ)
  else
  if x2 = 5 then
    chk (inb x1 160) <|
    some ((some (σ.1 42 0 0 x1.toNatClampNeg)), σ)
  else
  if x2 = 6 then
    bnd (fX_doesSomething N x1 σ) fun r1 σ2 =>
    if r1 = 0 then
      some ((some 0), σ2)
    else
      some ((some 1), σ2)
  else
  some (none, σ)
def fLand_closeWeek (N : Nat) (x1 : Int32) (x2 : Int32) (σ : St) : Option St :=
  nm (sI σ 57 0 0 0 x1) fun (σ1 : St) =>
  nm (sI σ1 58 0 0 0 x2) fun (σ2 : St) =>
  nm (sI σ2 56 0 0 0 ((σ2.1 56 0 0 0) + ((σ2.1 57 0 0 0) - (σ2.1 58 0 0 0)))) fun (σ3 : St) =>
  chk (inb (irem (σ3.1 60 0 0 0) 4) 4) <|
  nm (sI σ3 59 0 0 (irem (σ3.1 60 0 0 0) 4).toNatClampNeg ((σ3.1 57 0 0 0) - (σ3.1 58 0 0 0))) fun (σ4 : St) =>
  nm (sI σ4 60 0 0 0 ((σ4.1 60 0 0 0) + 1)) fun (σ5 : St) =>
  some σ5
def fLife_kindOn (N : Nat) (kv kp : Nat) (x1 : Int32) (σ : St) : Option Int32 :=
  chk (inb (x1 - 312) 624) <|
  some ((σ.1 78 kv kp (x1 - 312).toNatClampNeg) &&& 15)
def fLife_stampedDays_81 (N : Nat) (kv kp : Nat) (go15 : Int32 → Int32 → Int32 → St → Option Int32) (x1 : Int32) (x3 : Int32) (s0 : Int32) (s1 : Int32) (σ : St) : Option Int32 :=
  nm ((s0 + s1)) fun (y1 : Int32) =>
  go15 x1 y1 (x3 + 1) σ
def fLife_stampedDays_80 (N : Nat) (kv kp : Nat) (go15 : Int32 → Int32 → Int32 → St → Option Int32) (x1 : Int32) (x3 : Int32) (s0 : Int32) (σ : St) : Option Int32 :=
  fLife_stampedDays_81 N kv kp go15 x1 x3 s0 0 σ
def fLife_stampedDays_45 (N : Nat) (kv kp : Nat) (go15 : Int32 → Int32 → Int32 → St → Option Int32) (x1 : Int32) (x2 : Int32) (x3 : Int32) (s0 : Int32) (σ : St) : Option Int32 :=
  if s0 = 0 then
    fLife_stampedDays_80 N kv kp go15 x1 x3 x2 σ
  else
    chk (inb (σ.1 74 kv kp 0) 20) <|
    bn1 (fLaw_insures N kv (σ.1 47 0 0 (σ.1 74 kv kp 0).toNatClampNeg) x3 σ) fun r1 =>
    if r1 = 0 then
      fLife_stampedDays_80 N kv kp go15 x1 x3 x2 σ
    else
      fLife_stampedDays_81 N kv kp go15 x1 x3 x2 1 σ
def fLife_stampedDays_40 (N : Nat) (kv kp : Nat) (go15 : Int32 → Int32 → Int32 → St → Option Int32) (x1 : Int32) (x2 : Int32) (x3 : Int32) (σ : St) : Option Int32 :=
  fLife_stampedDays_45 N kv kp go15 x1 x2 x3 1 σ
def fLife_stampedDays_15 (N : Nat) (kv kp : Nat) : Nat → Int32 → Int32 → Int32 → St → Option Int32
  | 0, _, _, _, _ => none
  | n+1, x1, x2, x3, σ =>
    if x1 < x3 then
      some x2
    else
      bn1 (fLife_kindOn N kv kp x3 σ) fun r1 =>
      if r1 = 7 then
        fLife_stampedDays_40 N kv kp (fLife_stampedDays_15 N kv kp n) x1 x2 x3 σ
      else
        bn1 (fLife_kindOn N kv kp x3 σ) fun r2 =>
        if r2 = 6 then
          fLife_stampedDays_40 N kv kp (fLife_stampedDays_15 N kv kp n) x1 x2 x3 σ
        else
          fLife_stampedDays_45 N kv kp (fLife_stampedDays_15 N kv kp n) x1 x2 x3 0 σ
def fLife_stampedDays (N : Nat) (kv kp : Nat) (x1 : Int32) (σ : St) : Option Int32 :=
  bn1 (fMath_max_I N 312 ((x1 - 6) + 1) σ) fun r1 =>
  fLife_stampedDays_15 N kv kp N x1 0 r1 σ
def fLand_settle_24 (N : Nat) (x1 : Int32) (x3 : Int32) (s1 : Int32) (s2 : Int32) (σ : St) : Option (Int32 × St) :=
  chk (inb s1 20) <|
  nm (sI σ 55 0 0 s1.toNatClampNeg s2) fun (σ1 : St) =>
  if 0 < x3 then
    chk (inb x1 20) <|
    nm (sI σ1 54 0 0 x1.toNatClampNeg ((σ1.1 54 0 0 x1.toNatClampNeg) + x3)) fun (σ2 : St) =>
    some (x3, σ2)
  else
    some (0, σ1)
def fLand_settle (N : Nat) (x1 : Int32) (x2 : Int32) (σ : St) : Option (Int32 × St) :=
  chk (inb x1 20) <|
  nm ((x2 - (σ.1 54 0 0 x1.toNatClampNeg))) fun (y1 : Int32) =>
  if 0 ≤ y1 then
    fLand_settle_24 N x1 y1 x1 0 σ
  else
    fLand_settle_24 N x1 y1 x1 (-y1) σ
def fX_payWeek_27 (N : Nat) : Nat → Nat → Int32 → Int32 → Int32 → Int32 → St → Option St
  | 0, _, _, _, _, _, _ => none
  | n+1, k1_0, x2, x3, x4, x5, σ =>
    if (σ.1 52 0 0 0) ≤ x5 then
      bn1 (fLand_closeWeek N x3 x4 σ) fun σ1 =>
      some σ1
    else
      bnd (fView_lifeOf N k1_0 x5 σ) fun r2 σ3 =>
      bn1 (fLife_stampedDays N r2.1 r2.2 (σ3.1 162 0 0 0) σ3) fun r4 =>
      nm ((x3 + (x2 * r4))) fun (y5 : Int32) =>
      bnd (fLand_settle N x5 (σ3.1 81 r2.1 r2.2 0) σ3) fun r6 σ7 =>
      nm ((x4 + r6)) fun (y8 : Int32) =>
      (fX_payWeek_27 N n) k1_0 x2 y5 y8 (x5 + 1) σ7
def fX_payWeek (N : Nat) (σ : St) : Option St :=
  bnd (fX_asOfToday N σ) fun r1 σ2 =>
  bn1 (fLaw_param N r1 6 (σ2.1 162 0 0 0) σ2) fun r3 =>
  fX_payWeek_27 N N r1 r3 0 0 0 σ2
def fX_days_22 (N : Nat) (σ : St) : Option ((Option Int32) × St) :=
  some (none, σ)
def fX_days_52 (N : Nat) (go32 : Int32 → Int32 → St → Option ((Option Int32) × St)) (x1 : Int32) (x2 : Int32) (σ : St) : Option ((Option Int32) × St) :=
  nm (sI σ 162 0 0 0 ((σ.1 162 0 0 0) + 1)) fun (σ1 : St) =>
  go32 x1 (x2 + 1) σ1
def fX_days_32 (N : Nat) : Nat → Int32 → Int32 → St → Option ((Option Int32) × St)
  | 0, _, _, _ => none
  | n+1, x1, x2, σ =>
    if x1 ≤ x2 then
      some ((some (σ.1 162 0 0 0)), σ)
    else
      if (irem (σ.1 162 0 0 0) 6) = 5 then
        bn1 (fX_payWeek N σ) fun σ1 =>
        fX_days_52 N (fX_days_32 N n) x1 x2 σ1
      else
        fX_days_52 N (fX_days_32 N n) x1 x2 σ
def fX_days (N : Nat) (x1 : Int32) (σ : St) : Option ((Option Int32) × St) :=
  bn1 (fX_outside N x1 0 120 σ) fun r1 =>
  if r1 = 0 then
    if x1 ≤ (935 - (σ.1 162 0 0 0)) then
      fX_days_32 N N x1 0 σ
    else
      fX_days_22 N σ
  else
    fX_days_22 N σ
def fX_look_27 (N : Nat) (x1 : Int32) (σ : St) : Option ((Option Int32) × St) :=
  nm ((σ.1 163 0 0 0)) fun (y1 : Int32) =>
  nm (sI σ 163 0 0 0 x1) fun (σ2 : St) =>
  some ((some y1), σ2)
def fX_look (N : Nat) (x1 : Int32) (σ : St) : Option ((Option Int32) × St) :=
  if x1 = (-1) then
    fX_look_27 N x1 σ
  else
    bn1 (fX_outside N x1 312 (σ.1 162 0 0 0) σ) fun r1 =>
    if r1 = 0 then
      fX_look_27 N x1 σ
    else
      some (none, σ)
def fLife_payOn (N : Nat) (kv kp : Nat) (x1 : Int32) (σ : St) : Option Int32 :=
  chk (inb (x1 - 312) 624) <|
  some (((σ.1 78 kv kp (x1 - 312).toNatClampNeg) >>> (4 &&& 31)) &&& 16383)
def fLife_actOn (N : Nat) (kv kp : Nat) (x1 : Int32) (σ : St) : Option Int32 :=
  chk (inb (x1 - 312) 624) <|
  some ((((σ.1 78 kv kp (x1 - 312).toNatClampNeg) >>> (18 &&& 31)) &&& 31) - 1)
def fLife_claimOn (N : Nat) (kv kp : Nat) (x1 : Int32) (σ : St) : Option Int32 :=
  chk (inb (x1 - 312) 624) <|
  some ((((σ.1 78 kv kp (x1 - 312).toNatClampNeg) >>> (23 &&& 31)) &&& 127) - 1)
def fX_day_28 (N : Nat) (σ : St) : Option ((Option Int32) × St) :=
  some (none, σ)
def fX_day (N : Nat) (x1 : Int32) (x2 : Int32) (x3 : Int32) (σ : St) : Option ((Option Int32) × St) :=
  btR (fX_requirePerson N x1 σ) σ fun _ =>
  bn1 (fX_dayKnown N σ) fun r1 =>
  bn1 (fX_outside N x2 312 r1 σ) fun r2 =>
  if r2 = 0 then
    bn1 (fX_outside N x3 0 3 σ) fun r3 =>
    if r3 = 0 then
      bnd (fX_asOfTheDay N σ) fun r4 σ5 =>
      bnd (fView_lifeOf N r4 x1 σ5) fun r6 σ7 =>
      if x3 = 0 then
        bn1 (fLife_kindOn N r6.1 r6.2 x2 σ7) fun r8 =>
        some ((some r8), σ7)
      else
      if x3 = 1 then
        bn1 (fLife_payOn N r6.1 r6.2 x2 σ7) fun r9 =>
        some ((some r9), σ7)
      else
      if x3 = 2 then
        bn1 (fLife_actOn N r6.1 r6.2 x2 σ7) fun r10 =>
        some ((some r10), σ7)
      else
      bn1 (fLife_claimOn N r6.1 r6.2 x2 σ7) fun r11 =>
      some ((some r11), σ7)
    else
      fX_day_28 N σ
  else
    fX_day_28 N σ
def fX_claim (N : Nat) (x1 : Int32) (x2 : Int32) (x3 : Int32) (σ : St) : Option ((Option Int32) × St) :=
  btR (fX_requirePerson N x1 σ) σ fun _ =>
  btR (fX_requireElement N x3 11 σ) σ fun _ =>
  bnd (fX_asOfTheDay N σ) fun r1 σ2 =>
  bnd (fView_lifeOf N r1 x1 σ2) fun r3 σ4 =>
  btR (fX_requireElement N x2 (σ4.1 84 r3.1 r3.2 0) σ4) σ4 fun _ =>
  chk (inb ((x2 * 11) + x3) 605) <|
  some ((some (σ4.1 79 r3.1 r3.2 ((x2 * 11) + x3).toNatClampNeg)), σ4)
def fX_value (N : Nat) (x1 : Int32) (x2 : Int32) (σ : St) : Option ((Option Int64) × St) :=
  btR (fX_requirePerson N x1 σ) σ fun _ =>
  btR (fX_requireElement N x2 9 σ) σ fun _ =>
  bnd (fX_asOfToday N σ) fun r1 σ2 =>
  bnd (fView_lifeOf N r1 x1 σ2) fun r3 σ4 =>
  bn1 (fLife_setOut N r3.1 r3.2 (σ4.1 162 0 0 0) σ4) fun σ5 =>
  chk (inb (8 + x2) 20) <|
  some ((some (σ5.2 72 r1 0 (8 + x2).toNatClampNeg)), σ5)
def fX_law_42 (N : Nat) (x1 : Int32) (x2 : Int32) (x3 : Int32) (s0 : Int32) (s1 : Int32) (σ : St) : Option ((Option Int32) × St) :=
  btR (fX_requireElement N s0 s1 σ) σ fun _ =>
  bnd (fX_asOfTheDay N σ) fun r1 σ2 =>
  if x3 = 0 then
    bn1 (fLaw_param N r1 x1 x2 σ2) fun r3 =>
    some ((some r3), σ2)
  else
    bn1 (fLaw_insures N r1 (x1 - 10) x2 σ2) fun r4 =>
    if r4 = 0 then
      some ((some 0), σ2)
    else
      some ((some 1), σ2)
def fX_law_31 (N : Nat) (x1 : Int32) (x2 : Int32) (x3 : Int32) (s0 : Int32) (σ : St) : Option ((Option Int32) × St) :=
  if x3 = 0 then
    fX_law_42 N x1 x2 x3 s0 8 σ
  else
    fX_law_42 N x1 x2 x3 s0 8 σ
def fX_law_18 (N : Nat) (x1 : Int32) (x2 : Int32) (s0 : Int32) (σ : St) : Option ((Option Int32) × St) :=
  if s0 = 0 then
    fX_law_31 N x1 x2 s0 x1 σ
  else
    fX_law_31 N x1 x2 s0 (x1 - 10) σ
def fX_law (N : Nat) (x1 : Int32) (x2 : Int32) (σ : St) : Option ((Option Int32) × St) :=
  btR (fX_requireElement N x2 936 σ) σ fun _ =>
  if x1 < 10 then
    fX_law_18 N x1 x2 0 σ
  else
    fX_law_18 N x1 x2 1 σ
def fX_paid (N : Nat) (x1 : Int32) (x2 : Int32) (σ : St) : Option ((Option Int32) × St) :=
  btR (fX_requirePerson N x1 σ) σ fun _ =>
  if x2 = 0 then
    chk (inb x1 20) <|
    some ((some (σ.1 54 0 0 x1.toNatClampNeg)), σ)
  else
  if x2 = 1 then
    chk (inb x1 20) <|
    some ((some (σ.1 55 0 0 x1.toNatClampNeg)), σ)
  else
  if x2 = 2 then
    bnd (fX_asOfTheDay N σ) fun r1 σ2 =>
    bnd (fView_lifeOf N r1 x1 σ2) fun r3 σ4 =>
    some ((some (σ4.1 81 r3.1 r3.2 0)), σ4)
  else
  some (none, σ)
def fMath_floorDiv_I (N : Nat) (x0 : Int32) (x1 : Int32) (σ : St) : Option Int32 :=
  chk (¬ x1 = 0) <|
  nm ((x0 / x1)) fun (y1 : Int32) =>
  if 0 ≤ (x0 ^^^ x1) then
    some y1
  else
    if (y1 * x1) = x0 then
      some y1
    else
      some (y1 - 1)
def fLand_lasts_22 (N : Nat) : Nat → Int32 → Int32 → Int32 → St → Option Int32
  | 0, _, _, _, _ => none
  | n+1, x1, x2, x3, σ =>
    if x1 ≤ x3 then
      if 0 ≤ x2 then
        some (-1)
      else
        if x1 = 0 then
          some (-1)
        else
          bn1 (fMath_floorDiv_I N x2 x1 σ) fun r1 =>
          nm ((-r1)) fun (y2 : Int32) =>
          if y2 ≤ 0 then
            some (-1)
          else
            chk (¬ y2 = 0) <|
            some (((σ.1 56 0 0 0) / y2) + 1)
    else
      chk (inb x3 4) <|
      nm ((x2 + (σ.1 59 0 0 x3.toNatClampNeg))) fun (y3 : Int32) =>
      (fLand_lasts_22 N n) x1 y3 (x3 + 1) σ
def fLand_lasts (N : Nat) (σ : St) : Option Int32 :=
  if 0 ≤ (σ.1 56 0 0 0) then
    bn1 (fMath_min_I N (σ.1 60 0 0 0) 4 σ) fun r1 =>
    fLand_lasts_22 N N r1 0 0 σ
  else
    some 0
def fX_fund (N : Nat) (x1 : Int32) (σ : St) : Option (Option Int32) :=
  if x1 = 0 then
    some (some (σ.1 56 0 0 0))
  else
  if x1 = 1 then
    some (some (σ.1 57 0 0 0))
  else
  if x1 = 2 then
    some (some (σ.1 58 0 0 0))
  else
  if x1 = 3 then
    bn1 (fLand_lasts N σ) fun r1 =>
    some (some r1)
  else
  some none
def fMarket_knownFrom (N : Nat) (x1 : Int32) (x2 : Int32) (σ : St) : Option Int32 :=
  chk (inb x1 24) <|
  bn1 (fLand_miles N (σ.1 96 0 0 x1.toNatClampNeg) x2 σ) fun r1 =>
  some ((σ.1 100 0 0 x1.toNatClampNeg) + (((r1 + 50) - 1) / 50))
def fX_known (N : Nat) (x1 : Int32) (x2 : Int32) (σ : St) : Option (Option Int32) :=
  btO (fX_requireElement N x1 (σ.1 102 0 0 0) σ) fun _ =>
  btO (fX_requireElement N x2 (σ.1 46 0 0 0) σ) fun _ =>
  bn1 (fMarket_knownFrom N x1 x2 σ) fun r1 =>
  some (some r1)
def fMarket_isOpenTo (N : Nat) (x1 : Int32) (x2 : Int32) (x3 : Int32) (σ : St) : Option Int32 :=
  chk (inb x2 24) <|
  if (σ.1 101 0 0 x2.toNatClampNeg) = 0 then
    chk (inb x1 20) <|
    bn1 (fMarket_knownFrom N x2 (σ.1 49 0 0 x1.toNatClampNeg) σ) fun r1 =>
    if x3 < r1 then
      some 0
    else
      some 1
  else
    some 0
def fLaw_firstObjection_34 (N : Nat) (kv : Nat) : Nat → Int32 → Int32 → Int32 → St → Option (Int32 × St)
  | 0, _, _, _, _ => none
  | n+1, x2, x3, x4, σ =>
    if x3 ≤ x4 then
      some ((-1), σ)
    else
      chk (inb x2 17) <|
      chk (inb x4 24) <|
      bnd (fAct_work N x2.toNatClampNeg kv kv (σ.1 8 (x2.toNatClampNeg) 0 x4.toNatClampNeg) σ) fun r1 σ2 =>
      if (lg_cmp r1 0) = 0 then
        some (x4, σ2)
      else
        (fLaw_firstObjection_34 N kv n) x2 x3 (x4 + 1) σ2
def fLaw_firstObjection_30 (N : Nat) (kv : Nat) (x2 : Int32) (s0 : Int32) (σ : St) : Option (Int32 × St) :=
  fLaw_firstObjection_34 N kv N x2 s0 0 σ
def fLaw_firstObjection (N : Nat) (kv : Nat) (x1 : Int32) (σ : St) : Option (Int32 × St) :=
  chk (inb x1 936) <|
  chk (inb (σ.1 63 kv 0 x1.toNatClampNeg) 35) <|
  nm ((σ.1 71 kv 0 (σ.1 63 kv 0 x1.toNatClampNeg).toNatClampNeg)) fun (y1 : Int32) =>
  if y1 = (-1) then
    fLaw_firstObjection_30 N kv y1 0 σ
  else
    chk (inb y1 17) <|
    fLaw_firstObjection_30 N kv y1 (σ.1 9 (y1.toNatClampNeg) 0 0) σ
def fMarket_objectionTo (N : Nat) (k1_0 k1_1 : Nat) (x2 : Int32) (x3 : Int32) (σ : St) : Option (Int32 × St) :=
  bn1 (fLife_setOut N k1_0 k1_1 x3 σ) fun σ1 =>
  bn1 (fMarket_setOutVacancy N k1_0 (σ1.1 74 k1_0 k1_1 0) x2 σ1) fun σ2 =>
  bnd (fLaw_firstObjection N k1_0 x3 σ2) fun r3 σ4 =>
  some (r3, σ4)
def fMarket_addOffer (N : Nat) (k1_0 k1_1 : Nat) (x2 : Int32) (x3 : Int32) (σ : St) : Option (Int32 × St) :=
  chk (inb (σ.1 107 0 0 0) 60) <|
  nm (sI σ 103 0 0 (σ.1 107 0 0 0).toNatClampNeg (σ.1 74 k1_0 k1_1 0)) fun (σ1 : St) =>
  chk (inb (σ1.1 107 0 0 0) 60) <|
  nm (sI σ1 104 0 0 (σ1.1 107 0 0 0).toNatClampNeg x2) fun (σ2 : St) =>
  bnd (fMarket_objectionTo N k1_0 k1_1 x2 x3 σ2) fun r3 σ4 =>
  chk (inb (σ2.1 107 0 0 0) 60) <|
  nm (sI σ4 105 0 0 (σ2.1 107 0 0 0).toNatClampNeg r3) fun (σ5 : St) =>
  chk (inb (σ5.1 107 0 0 0) 60) <|
  nm (sI σ5 106 0 0 (σ5.1 107 0 0 0).toNatClampNeg 0) fun (σ6 : St) =>
  nm (sI σ6 107 0 0 0 ((σ6.1 107 0 0 0) + 1)) fun (σ7 : St) =>
  some (((σ7.1 107 0 0 0) - 1), σ7)
def fX_offer (N : Nat) (x1 : Int32) (x2 : Int32) (σ : St) : Option ((Option Int32) × St) :=
  btR (fX_requirePerson N x1 σ) σ fun _ =>
  btR (fX_requireElement N x2 (σ.1 102 0 0 0) σ) σ fun _ =>
  if 60 ≤ (σ.1 107 0 0 0) then
    some ((some (-1)), σ)
  else
    bn1 (fMarket_isOpenTo N x1 x2 (σ.1 162 0 0 0) σ) fun r1 =>
    if r1 = 0 then
      some ((some (-1)), σ)
    else
      bnd (fX_asOfToday N σ) fun r2 σ3 =>
      bnd (fView_lifeOf N r2 x1 σ3) fun r4 σ5 =>
      if (σ5.1 85 r4.1 r4.2 0) = 0 then
        some ((some (-1)), σ5)
      else
        bnd (fMarket_addOffer N r4.1 r4.2 x2 (σ5.1 162 0 0 0) σ5) fun r6 σ7 =>
        some ((some r6), σ7)
def fX_offerOf (N : Nat) (x1 : Int32) (x2 : Int32) (σ : St) : Option (Option Int32) :=
  btO (fX_requireElement N x1 (σ.1 107 0 0 0) σ) fun _ =>
  if x2 = 0 then
    chk (inb x1 60) <|
    some (some (σ.1 103 0 0 x1.toNatClampNeg))
  else
  if x2 = 1 then
    chk (inb x1 60) <|
    some (some (σ.1 104 0 0 x1.toNatClampNeg))
  else
  if x2 = 2 then
    chk (inb x1 60) <|
    if (σ.1 105 0 0 x1.toNatClampNeg) = (-1) then
      some (some 1)
    else
      some (some 0)
  else
  if x2 = 3 then
    chk (inb x1 60) <|
    some (some (σ.1 105 0 0 x1.toNatClampNeg))
  else
  if x2 = 4 then
    chk (inb x1 60) <|
    some (some (σ.1 106 0 0 x1.toNatClampNeg))
  else
  some none
def fX_answer_66 (N : Nat) (x1 : Int32) (x2 : Int32) (x3 : Int32) (σ : St) : Option ((Option Int32) × St) :=
  if x2 = 0 then
    chk (inb x1 60) <|
    nm (sI σ 106 0 0 x1.toNatClampNeg 2) fun (σ5 : St) =>
    bnd (fX_tell N 7 (σ5.1 103 0 0 x1.toNatClampNeg) x1 (σ5.1 162 0 0 0) σ5) fun r6 σ7 =>
    some ((some r6), σ7)
  else
    chk (inb x1 60) <|
    nm (sI σ 106 0 0 x1.toNatClampNeg 1) fun (σ1 : St) =>
    chk (inb x3 24) <|
    nm (sI σ1 101 0 0 x3.toNatClampNeg (1 &&& 1)) fun (σ2 : St) =>
    bnd (fX_tell N 1 (σ2.1 103 0 0 x1.toNatClampNeg) (σ2.1 98 0 0 x3.toNatClampNeg) (σ2.1 162 0 0 0) σ2) fun r3 σ4 =>
    some ((some r3), σ4)
def fX_answer (N : Nat) (x1 : Int32) (x2 : Int32) (σ : St) : Option ((Option Int32) × St) :=
  btR (fX_requireElement N x1 (σ.1 107 0 0 0) σ) σ fun _ =>
  chk (inb x1 60) <|
  nm ((σ.1 104 0 0 x1.toNatClampNeg)) fun (y1 : Int32) =>
  if (σ.1 106 0 0 x1.toNatClampNeg) = 0 then
    if (σ.1 43 0 0 0) < 160 then
      if x2 = 0 then
        fX_answer_66 N x1 x2 y1 σ
      else
        chk (inb y1 24) <|
        if (σ.1 101 0 0 y1.toNatClampNeg) = 0 then
          fX_answer_66 N x1 x2 y1 σ
        else
          some ((some (-1)), σ)
    else
      some ((some (-1)), σ)
  else
    some ((some (-1)), σ)
def fX_sent (N : Nat) (x1 : Int32) (σ : St) : Option (Option Int32) :=
  btO (fX_requirePerson N x1 σ) fun _ =>
  chk (inb x1 20) <|
  some (some (σ.1 123 0 0 x1.toNatClampNeg))
def fCourts_hasCaseOf_2 (N : Nat) : Nat → Int32 → Int32 → St → Option Int32
  | 0, _, _, _ => none
  | n+1, x1, x2, σ =>
    if (σ.1 36 0 0 0) ≤ x2 then
      some 0
    else
      chk (inb x2 30) <|
      if (σ.1 31 0 0 x2.toNatClampNeg) = x1 then
        some 1
      else
        (fCourts_hasCaseOf_2 N n) x1 (x2 + 1) σ
def fCourts_hasCaseOf (N : Nat) (x1 : Int32) (σ : St) : Option Int32 :=
  fCourts_hasCaseOf_2 N N x1 0 σ
def fCourts_nextOf_2 (N : Nat) : Nat → Int32 → Int32 → Int32 → St → Option Int32
  | 0, _, _, _, _ => none
  | n+1, x1, x2, x3, σ =>
    if (σ.1 29 0 0 0) < x3 then
      some (-1)
    else
      chk (inb x1 3) <|
      chk (¬ (σ.1 29 0 0 0) = 0) <|
      nm ((irem ((σ.1 30 0 0 x1.toNatClampNeg) + x3) (σ.1 29 0 0 0))) fun (y1 : Int32) =>
      chk (inb y1 18) <|
      if (σ.1 27 0 0 y1.toNatClampNeg) = x1 then
        if (σ.1 28 0 0 y1.toNatClampNeg) = x2 then
          (fCourts_nextOf_2 N n) x1 x2 (x3 + 1) σ
        else
          some y1
      else
        (fCourts_nextOf_2 N n) x1 x2 (x3 + 1) σ
def fCourts_nextOf (N : Nat) (x1 : Int32) (x2 : Int32) (σ : St) : Option Int32 :=
  fCourts_nextOf_2 N N x1 x2 1 σ
def fCourts_open_3 (N : Nat) : Nat → Int32 → Int32 → Int32 → Int32 → St → Option (Int32 × St)
  | 0, _, _, _, _, _ => none
  | n+1, x1, x2, x3, x4, σ =>
    if 3 ≤ x4 then
      chk (cpok ((σ.1 36 0 0 0) * 3) 0 3 90 3) <|
      nm (sA σ 30 0 0 (va_cpy (σ.1 33 0 0) (σ.1 30 0 0) ((σ.1 36 0 0 0) * 3).toNatClampNeg 0 3)) fun (σ1 : St) =>
      chk (inb (σ1.1 36 0 0 0) 30) <|
      nm (sI σ1 31 0 0 (σ1.1 36 0 0 0).toNatClampNeg x1) fun (σ2 : St) =>
      chk (inb (σ2.1 36 0 0 0) 30) <|
      nm (sI σ2 32 0 0 (σ2.1 36 0 0 0).toNatClampNeg x3) fun (σ3 : St) =>
      chk (inb (σ3.1 36 0 0 0) 30) <|
      nm (sI σ3 34 0 0 (σ3.1 36 0 0 0).toNatClampNeg (-1)) fun (σ4 : St) =>
      nm (sI σ4 36 0 0 0 ((σ4.1 36 0 0 0) + 1)) fun (σ5 : St) =>
      some (((σ5.1 36 0 0 0) - 1), σ5)
    else
      bn1 (fCourts_nextOf N x4 x2 σ) fun r6 =>
      if r6 = (-1) then
        some ((-1), σ)
      else
        chk (inb (((σ.1 36 0 0 0) * 3) + x4) 90) <|
        nm (sI σ 33 0 0 (((σ.1 36 0 0 0) * 3) + x4).toNatClampNeg r6) fun (σ7 : St) =>
        (fCourts_open_3 N n) x1 x2 x3 (x4 + 1) σ7
def fCourts_open (N : Nat) (x1 : Int32) (x2 : Int32) (x3 : Int32) (σ : St) : Option (Int32 × St) :=
  fCourts_open_3 N N x1 x2 x3 0 σ
def fX_appeal_31 (N : Nat) (x1 : Int32) (σ : St) : Option ((Option Int32) × St) :=
  bn1 (fEvents_isKnown N x1 (σ.1 162 0 0 0) σ) fun r1 =>
  if r1 = 0 then
    some ((some (-1)), σ)
  else
    if 30 ≤ (σ.1 36 0 0 0) then
      some ((some (-1)), σ)
    else
      bn1 (fCourts_hasCaseOf N x1 σ) fun r2 =>
      if r2 = 0 then
        chk (inb x1 160) <|
        chk (inb (σ.1 38 0 0 x1.toNatClampNeg) 20) <|
        bnd (fCourts_open N x1 (σ.1 51 0 0 (σ.1 38 0 0 x1.toNatClampNeg).toNatClampNeg) (σ.1 162 0 0 0) σ) fun r3 σ4 =>
        some ((some r3), σ4)
      else
        some ((some (-1)), σ)
def fX_appeal (N : Nat) (x1 : Int32) (σ : St) : Option ((Option Int32) × St) :=
  btR (fX_requireElement N x1 (σ.1 43 0 0 0) σ) σ fun _ =>
  chk (inb x1 160) <|
  nm ((σ.1 37 0 0 x1.toNatClampNeg)) fun (y1 : Int32) =>
  if y1 = 0 then
    fX_appeal_31 N x1 σ
  else
    if y1 = 7 then
      fX_appeal_31 N x1 σ
    else
      some ((some (-1)), σ)
def fX_close_43 (N : Nat) (x1 : Int32) (x2 : Int32) (σ : St) : Option ((Option Int32) × St) :=
  chk (inb x1 30) <|
  nm (sI σ 34 0 0 x1.toNatClampNeg (σ.1 162 0 0 0)) fun (σ1 : St) =>
  nm (sI σ1 35 0 0 x1.toNatClampNeg (x2 &&& 1)) fun (σ2 : St) =>
  if x2 = 0 then
    some ((some 1), σ2)
  else
    nm ((σ2.1 31 0 0 x1.toNatClampNeg)) fun (y3 : Int32) =>
    chk (inb y3 160) <|
    bnd (fX_tell N 8 (σ2.1 38 0 0 y3.toNatClampNeg) y3 (σ2.1 162 0 0 0) σ2) fun r4 σ5 =>
    some ((some 1), σ5)
def fX_close (N : Nat) (x1 : Int32) (x2 : Int32) (σ : St) : Option ((Option Int32) × St) :=
  btR (fX_requireElement N x1 (σ.1 36 0 0 0) σ) σ fun _ =>
  chk (inb x1 30) <|
  if (σ.1 34 0 0 x1.toNatClampNeg) = (-1) then
    if x2 = 0 then
      fX_close_43 N x1 x2 σ
    else
      if (σ.1 43 0 0 0) < 160 then
        fX_close_43 N x1 x2 σ
      else
        some ((some 0), σ)
  else
    some ((some 0), σ)
def fX_isLate_39 (N : Nat) (x2 : Int32) (s0 : Int32) (σ : St) : Option (Int32 × St) :=
  bnd (fX_asOfToday N σ) fun r1 σ2 =>
  bn1 (fLaw_param N r1 7 x2 σ2) fun r3 =>
  if (s0 - x2) ≤ r3 then
    some (0, σ2)
  else
    some (1, σ2)
def fX_isLate (N : Nat) (x1 : Int32) (σ : St) : Option (Int32 × St) :=
  chk (inb x1 30) <|
  nm ((σ.1 32 0 0 x1.toNatClampNeg)) fun (y1 : Int32) =>
  if (σ.1 34 0 0 x1.toNatClampNeg) = (-1) then
    fX_isLate_39 N y1 (σ.1 162 0 0 0) σ
  else
    fX_isLate_39 N y1 (σ.1 34 0 0 x1.toNatClampNeg) σ
def fX_caseOf (N : Nat) (x1 : Int32) (x2 : Int32) (σ : St) : Option ((Option Int32) × St) :=
  btR (fX_requireElement N x1 (σ.1 36 0 0 0) σ) σ fun _ =>
  if x2 = 0 then
    chk (inb x1 30) <|
    some ((some (σ.1 31 0 0 x1.toNatClampNeg)), σ)
  else
  if x2 = 1 then
    chk (inb x1 30) <|
    some ((some (σ.1 32 0 0 x1.toNatClampNeg)), σ)
  else
  if x2 = 2 then
    chk (inb (((x1 * 3) + x2) - 2) 90) <|
    some ((some (σ.1 33 0 0 (((x1 * 3) + x2) - 2).toNatClampNeg)), σ)
  else
  if x2 = 3 then
    chk (inb (((x1 * 3) + x2) - 2) 90) <|
    some ((some (σ.1 33 0 0 (((x1 * 3) + x2) - 2).toNatClampNeg)), σ)
  else
  if x2 = 4 then
    chk (inb (((x1 * 3) + x2) - 2) 90) <|
    some ((some (σ.1 33 0 0 (((x1 * 3) + x2) - 2).toNatClampNeg)), σ)
  else
  if x2 = 5 then
    chk (inb x1 30) <|
    some ((some (σ.1 34 0 0 x1.toNatClampNeg)), σ)
  else
  if x2 = 6 then
    chk (inb x1 30) <|
    if (σ.1 35 0 0 x1.toNatClampNeg) = 0 then
      some ((some 0), σ)
    else
      some ((some 1), σ)
  else
  if x2 = 7 then
    bnd (fX_isLate N x1 σ) fun r1 σ2 =>
    if r1 = 0 then
      some ((some 0), σ2)
    else
      some ((some 1), σ2)
  else
  some (none, σ)
def fArrays_fill_X_more_5 (N : Nat) : Nat → Int32 → Int32 → Int32 → St → Option St
  | 0, _, _, _, _ => none
  | n+1, x1, x2, x3, σ =>
    if x3 ≤ x2 then
      some σ
    else
      chk (inb x2 27) <|
      nm (sI σ 158 0 0 x2.toNatClampNeg x1) fun (σ1 : St) =>
      (fArrays_fill_X_more_5 N n) x1 (x2 + 1) x3 σ1
def fArrays_fill_X_more (N : Nat) (x1 : Int32) (σ : St) : Option St :=
  fArrays_fill_X_more_5 N N x1 0 27 σ
def fLaw_forget (N : Nat) (kv : Nat) (σ : St) : Option St :=
  nm (sI σ 62 kv 0 0 (-1)) fun (σ1 : St) =>
  some σ1
def fX_compareWithTry_68 (N : Nat) (go32 : Nat → Int32 → St → Option St) : Nat → Nat → Int32 → Nat → Nat → Nat → Nat → Int32 → St → Option St
  | 0, _, _, _, _, _, _, _, _ => none
  | n+1, k1_0, x2, k3_0, k3_1, k4_0, k4_1, x5, σ =>
    if 3 ≤ x5 then
      go32 k1_0 (x2 + 1) σ
    else
      chk (inb x2 20) <|
      chk (inb (((σ.1 47 0 0 x2.toNatClampNeg) * 3) + x5) 27) <|
      chk (inb x5 3) <|
      nm (sI σ 158 0 0 (((σ.1 47 0 0 x2.toNatClampNeg) * 3) + x5).toNatClampNeg ((σ.1 158 0 0 (((σ.1 47 0 0 x2.toNatClampNeg) * 3) + x5).toNatClampNeg) + ((σ.1 81 k3_0 k3_1 x5.toNatClampNeg) - (σ.1 81 k4_0 k4_1 x5.toNatClampNeg)))) fun (σ1 : St) =>
      chk (inb (24 + x5) 27) <|
      nm (sI σ1 158 0 0 (24 + x5).toNatClampNeg ((σ1.1 158 0 0 (24 + x5).toNatClampNeg) + ((σ1.1 81 k3_0 k3_1 x5.toNatClampNeg) - (σ1.1 81 k4_0 k4_1 x5.toNatClampNeg)))) fun (σ2 : St) =>
      (fX_compareWithTry_68 N go32 n) k1_0 x2 k3_0 k3_1 k4_0 k4_1 (x5 + 1) σ2
def fX_compareWithTry_32 (N : Nat) : Nat → Nat → Int32 → St → Option St
  | 0, _, _, _ => none
  | n+1, k1_0, x2, σ =>
    if (σ.1 52 0 0 0) ≤ x2 then
      bn1 (fLaw_forget N 1 σ) fun σ1 =>
      nm (sI σ1 161 0 0 0 1) fun (σ2 : St) =>
      some σ2
    else
      bnd (fView_lifeOf N 1 x2 σ) fun r3 σ4 =>
      bnd (fView_lifeOf N k1_0 x2 σ4) fun r5 σ6 =>
      fX_compareWithTry_68 N (fX_compareWithTry_32 N n) N k1_0 x2 r3.1 r3.2 r5.1 r5.2 0 σ6
def fX_compareWithTry (N : Nat) (σ : St) : Option St :=
  bnd (fX_asOfToday N σ) fun r1 σ2 =>
  bn1 (fView_settle N 1 (σ2.1 162 0 0 0) ((σ2.1 159 0 0 0) + 1) σ2) fun σ3 =>
  bn1 (fArrays_fill_X_more N 0 σ3) fun σ4 =>
  fX_compareWithTry_32 N N r1 0 σ4
def fX_attempt_27 (N : Nat) (σ : St) : Option ((Option Int32) × St) :=
  bn1 (fReader_refuse N σ) fun σ1 =>
  some ((some 9), σ1)
def fX_attempt (N : Nat) (x1 : Int32) (x2 : Int32) (x3 : Int32) (σ : St) : Option ((Option Int32) × St) :=
  btR (fX_requireOnTape N x1 σ) σ fun _ =>
  bn1 (fX_outside N x2 0 935 σ) fun r1 =>
  if r1 = 0 then
    bn1 (fX_outside N x3 0 935 σ) fun r2 =>
    if r2 = 0 then
      chk (inb (σ.1 159 0 0 0) 17) <|
      bnd (fReader_read N ((σ.1 159 0 0 0).toNatClampNeg) x1 σ) fun r3 σ4 =>
      if r3 = 0 then
        chk (inb (σ4.1 159 0 0 0) 17) <|
        bn1 (fAct_reign N ((σ4.1 159 0 0 0).toNatClampNeg) x2 x3 (σ4.1 162 0 0 0) σ4) fun σ5 =>
        bn1 (fX_compareWithTry N σ5) fun σ6 =>
        some ((some r3), σ6)
      else
        some ((some r3), σ4)
    else
      fX_attempt_27 N σ
  else
    fX_attempt_27 N σ
def fX_tried (N : Nat) (x1 : Int32) (x2 : Int32) (σ : St) : Option (Option Int32) :=
  btO (fX_requireElement N x1 9 σ) fun _ =>
  btO (fX_requireElement N x2 3 σ) fun _ =>
  if (σ.1 161 0 0 0) = 0 then
    some none
  else
    chk (inb ((x1 * 3) + x2) 27) <|
    some (some (σ.1 158 0 0 ((x1 * 3) + x2).toNatClampNeg))
def fMarket_openVacancies_27 (N : Nat) (go4 : Int32 → Int32 → St → Option Int32) (x2 : Int32) (s0 : Int32) (s1 : Int32) (σ : St) : Option Int32 :=
  nm ((s0 + s1)) fun (y1 : Int32) =>
  go4 y1 (x2 + 1) σ
def fMarket_openVacancies_4 (N : Nat) : Nat → Int32 → Int32 → St → Option Int32
  | 0, _, _, _ => none
  | n+1, x1, x2, σ =>
    if (σ.1 102 0 0 0) ≤ x2 then
      some x1
    else
      chk (inb x2 24) <|
      if (σ.1 101 0 0 x2.toNatClampNeg) = 0 then
        fMarket_openVacancies_27 N (fMarket_openVacancies_4 N n) x2 x1 1 σ
      else
        fMarket_openVacancies_27 N (fMarket_openVacancies_4 N n) x2 x1 0 σ
def fMarket_openVacancies (N : Nat) (σ : St) : Option Int32 :=
  fMarket_openVacancies_4 N N 0 0 σ
def fX_count (N : Nat) (x1 : Int32) (σ : St) : Option (Option Int32) :=
  if x1 = 0 then
    some (some (σ.1 162 0 0 0))
  else
  if x1 = 1 then
    some (some (σ.1 46 0 0 0))
  else
  if x1 = 2 then
    some (some (σ.1 52 0 0 0))
  else
  if x1 = 3 then
    some (some (σ.1 43 0 0 0))
  else
  if x1 = 4 then
    some (some (σ.1 159 0 0 0))
  else
  if x1 = 5 then
    some (some (σ.1 102 0 0 0))
  else
  if x1 = 6 then
    bn1 (fMarket_openVacancies N σ) fun r1 =>
    some (some r1)
  else
  if x1 = 7 then
    some (some (σ.1 107 0 0 0))
  else
  if x1 = 8 then
    some (some (σ.1 36 0 0 0))
  else
  if x1 = 9 then
    some (some (σ.1 29 0 0 0))
  else
  if x1 = 10 then
    some (some (σ.1 111 0 0 0))
  else
  some none
def fLand_addOffice (N : Nat) (x1 : Int32) (x2 : Int32) (σ : St) : Option (Int32 × St) :=
  chk (inb (σ.1 46 0 0 0) 8) <|
  nm (sI σ 44 0 0 (σ.1 46 0 0 0).toNatClampNeg x1) fun (σ1 : St) =>
  chk (inb (σ1.1 46 0 0 0) 8) <|
  nm (sI σ1 45 0 0 (σ1.1 46 0 0 0).toNatClampNeg x2) fun (σ2 : St) =>
  nm (sI σ2 46 0 0 0 ((σ2.1 46 0 0 0) + 1)) fun (σ3 : St) =>
  some (((σ3.1 46 0 0 0) - 1), σ3)
def fX_office (N : Nat) (x1 : Int32) (x2 : Int32) (σ : St) : Option (Int32 × St) :=
  if 8 ≤ (σ.1 46 0 0 0) then
    some ((-1), σ)
  else
    bn1 (fX_outside N x1 0 99 σ) fun r1 =>
    if r1 = 0 then
      bn1 (fX_outside N x2 0 99 σ) fun r2 =>
      if r2 = 0 then
        bnd (fLand_addOffice N x1 x2 σ) fun r3 σ4 =>
        some (r3, σ4)
      else
        some ((-1), σ)
    else
      some ((-1), σ)
def fLand_addPerson (N : Nat) (x1 : Int32) (x2 : Int32) (x3 : Int32) (x4 : Int32) (x5 : Int32) (σ : St) : Option (Int32 × St) :=
  chk (inb (σ.1 52 0 0 0) 20) <|
  nm (sI σ 47 0 0 (σ.1 52 0 0 0).toNatClampNeg x1) fun (σ1 : St) =>
  chk (inb (σ1.1 52 0 0 0) 20) <|
  nm (sI σ1 48 0 0 (σ1.1 52 0 0 0).toNatClampNeg x2) fun (σ2 : St) =>
  chk (inb (σ2.1 52 0 0 0) 20) <|
  nm (sI σ2 49 0 0 (σ2.1 52 0 0 0).toNatClampNeg x3) fun (σ3 : St) =>
  chk (inb (σ3.1 52 0 0 0) 20) <|
  nm (sI σ3 50 0 0 (σ3.1 52 0 0 0).toNatClampNeg x4) fun (σ4 : St) =>
  chk (inb (σ4.1 52 0 0 0) 20) <|
  nm (sI σ4 51 0 0 (σ4.1 52 0 0 0).toNatClampNeg x5) fun (σ5 : St) =>
  nm (sI σ5 52 0 0 0 ((σ5.1 52 0 0 0) + 1)) fun (σ6 : St) =>
  some (((σ6.1 52 0 0 0) - 1), σ6)
def fX_person (N : Nat) (x1 : Int32) (x2 : Int32) (x3 : Int32) (x4 : Int32) (x5 : Int32) (σ : St) : Option (Int32 × St) :=
  if 20 ≤ (σ.1 52 0 0 0) then
    some ((-1), σ)
  else
    bn1 (fX_outside N x1 0 7 σ) fun r1 =>
    if r1 = 0 then
      bn1 (fX_outside N x2 14 90 σ) fun r2 =>
      if r2 = 0 then
        bn1 (fX_outside N x3 0 ((σ.1 46 0 0 0) - 1) σ) fun r3 =>
        if r3 = 0 then
          bn1 (fX_outside N x4 1 999 σ) fun r4 =>
          if r4 = 0 then
            bn1 (fX_outside N x5 0 99 σ) fun r5 =>
            if r5 = 0 then
              bnd (fLand_addPerson N x1 x2 x3 x4 x5 σ) fun r6 σ7 =>
              some (r6, σ7)
            else
              some ((-1), σ)
          else
            some ((-1), σ)
        else
          some ((-1), σ)
      else
        some ((-1), σ)
    else
      some ((-1), σ)
def fReader_append_3 (N : Nat) : Nat → Int32 → Int32 → St → Option St
  | 0, _, _, _ => none
  | n+1, x1, x2, σ =>
    if x2 < 0 then
      some σ
    else
      if 600 ≤ (σ.1 111 0 0 0) then
        some σ
      else
        chk (inb (σ.1 111 0 0 0) 600) <|
        nm (sI σ 110 0 0 (σ.1 111 0 0 0).toNatClampNeg (x1 >>> (x2 &&& 31)).toInt8.toInt32.toInt8.toInt32) fun (σ1 : St) =>
        nm (sI σ1 111 0 0 0 ((σ1.1 111 0 0 0) + 1)) fun (σ2 : St) =>
        (fReader_append_3 N n) x1 (x2 + (-8)) σ2
def fReader_append (N : Nat) (x1 : Int32) (σ : St) : Option St :=
  fReader_append_3 N N x1 24 σ
def fX_feed (N : Nat) (x1 : Int32) (x2 : Int32) (x3 : Int32) (x4 : Int32) (x5 : Int32) (σ : St) : Option (Int32 × St) :=
  if (σ.1 111 0 0 0) ≤ 580 then
    bn1 (fReader_append N x1 σ) fun σ1 =>
    bn1 (fReader_append N x2 σ1) fun σ2 =>
    bn1 (fReader_append N x3 σ2) fun σ3 =>
    bn1 (fReader_append N x4 σ3) fun σ4 =>
    bn1 (fReader_append N x5 σ4) fun σ5 =>
    some ((σ5.1 111 0 0 0), σ5)
  else
    some ((-1), σ)
def fX_fault (N : Nat) (σ : St) : Option Int32 :=
  some (σ.1 112 0 0 0)
def fMath_floorDiv_J (N : Nat) (x0 : Int64) (x2 : Int64) (σ : St) : Option Int64 :=
  chk (¬ x2 = 0) <|
  nm ((x0 / x2)) fun (y1 : Int64) =>
  if 0 ≤ (lg_cmp (x0 ^^^ x2) 0) then
    some y1
  else
    if (lg_cmp (y1 * x2) x0) = 0 then
      some y1
    else
      some (y1 - 1)
def fMarket_addVacancy (N : Nat) (x1 : Int32) (x2 : Int32) (x3 : Int32) (x4 : Int32) (x5 : Int32) (σ : St) : Option (Int32 × St) :=
  chk (inb (σ.1 102 0 0 0) 24) <|
  nm (sI σ 96 0 0 (σ.1 102 0 0 0).toNatClampNeg x1) fun (σ1 : St) =>
  chk (inb (σ1.1 102 0 0 0) 24) <|
  nm (sI σ1 97 0 0 (σ1.1 102 0 0 0).toNatClampNeg x2) fun (σ2 : St) =>
  chk (inb (σ2.1 102 0 0 0) 24) <|
  nm (sI σ2 98 0 0 (σ2.1 102 0 0 0).toNatClampNeg x3) fun (σ3 : St) =>
  chk (inb (σ3.1 102 0 0 0) 24) <|
  nm (sI σ3 99 0 0 (σ3.1 102 0 0 0).toNatClampNeg x4) fun (σ4 : St) =>
  chk (inb (σ4.1 102 0 0 0) 24) <|
  nm (sI σ4 100 0 0 (σ4.1 102 0 0 0).toNatClampNeg x5) fun (σ5 : St) =>
  nm (sI σ5 102 0 0 0 ((σ5.1 102 0 0 0) + 1)) fun (σ6 : St) =>
  some (((σ6.1 102 0 0 0) - 1), σ6)
def fX_vacancy (N : Nat) (x1 : Int32) (x2 : Int32) (x3 : Int32) (x4 : Int32) (σ : St) : Option (Int32 × St) :=
  if 24 ≤ (σ.1 102 0 0 0) then
    some ((-1), σ)
  else
    bn1 (fX_outside N x1 0 ((σ.1 46 0 0 0) - 1) σ) fun r1 =>
    if r1 = 0 then
      bn1 (fX_outside N x2 0 7 σ) fun r2 =>
      if r2 = 0 then
        bn1 (fX_outside N x3 1 999 σ) fun r3 =>
        if r3 = 0 then
          bn1 (fX_outside N x4 0 999 σ) fun r4 =>
          if r4 = 0 then
            bnd (fMarket_addVacancy N x1 x2 x3 x4 (σ.1 162 0 0 0) σ) fun r5 σ6 =>
            some (r5, σ6)
          else
            some ((-1), σ)
        else
          some ((-1), σ)
      else
        some ((-1), σ)
    else
      some ((-1), σ)
def fMarket_gainOf (N : Nat) (k1_0 k1_1 : Nat) (x2 : Int32) (x3 : Int32) (σ : St) : Option (Int32 × St) :=
  chk (inb x2 24) <|
  chk (inb (σ.1 74 k1_0 k1_1 0) 20) <|
  bn1 (fLand_miles N (σ.1 49 0 0 (σ.1 74 k1_0 k1_1 0).toNatClampNeg) (σ.1 96 0 0 x2.toNatClampNeg) σ) fun r1 =>
  nm (((σ.1 99 0 0 x2.toNatClampNeg) - (r1 / 10))) fun (y2 : Int32) =>
  if y2 ≤ 0 then
    some (0, σ)
  else
    bn1 (fMarket_isOpenTo N (σ.1 74 k1_0 k1_1 0) x2 x3 σ) fun r3 =>
    if r3 = 0 then
      some (0, σ)
    else
      bnd (fMarket_objectionTo N k1_0 k1_1 x2 x3 σ) fun r4 σ5 =>
      if r4 = (-1) then
        some (y2, σ5)
      else
        some (0, σ5)
def fX_tellGains_75 (N : Nat) (go7 : Nat → Int32 → St → Option St) (go27 : Nat → Int32 → Nat → Nat → Int32 → St → Option St) (k1_0 : Nat) (x2 : Int32) (k3_0 : Nat) (k3_1 : Nat) (x4 : Int32) (t0_0 : Nat) (s1 : Int32) (s2 : Int32) (σ : St) : Option St :=
  chk (inb s1 24) <|
  nm (sI σ 122 t0_0 0 s1.toNatClampNeg s2) fun (σ1 : St) =>
  go27 k1_0 x2 k3_0 k3_1 (x4 + 1) σ1
def fX_tellGains_27 (N : Nat) (go7 : Nat → Int32 → St → Option St) : Nat → Nat → Int32 → Nat → Nat → Int32 → St → Option St
  | 0, _, _, _, _, _, _ => none
  | n+1, k1_0, x2, k3_0, k3_1, x4, σ =>
    if (σ.1 102 0 0 0) ≤ x4 then
      go7 k1_0 (x2 + 1) σ
    else
      chk (inb x2 20) <|
      if (σ.1 85 k3_0 k3_1 0) = 0 then
        fX_tellGains_75 N go7 (fX_tellGains_27 N go7 n) k1_0 x2 k3_0 k3_1 x4 x2.toNatClampNeg x4 0 σ
      else
        bnd (fMarket_gainOf N k3_0 k3_1 x4 (σ.1 162 0 0 0) σ) fun r1 σ2 =>
        fX_tellGains_75 N go7 (fX_tellGains_27 N go7 n) k1_0 x2 k3_0 k3_1 x4 x2.toNatClampNeg x4 r1 σ2
def fX_tellGains_7 (N : Nat) : Nat → Nat → Int32 → St → Option St
  | 0, _, _, _ => none
  | n+1, k1_0, x2, σ =>
    if (σ.1 52 0 0 0) ≤ x2 then
      some σ
    else
      bnd (fView_lifeOf N k1_0 x2 σ) fun r1 σ2 =>
      fX_tellGains_27 N (fX_tellGains_7 N n) N k1_0 x2 r1.1 r1.2 0 σ2
def fX_tellGains (N : Nat) (σ : St) : Option St :=
  bnd (fX_asOfToday N σ) fun r1 σ2 =>
  fX_tellGains_7 N N r1 0 σ2
def fSending_gather_51 (N : Nat) (go12 : Int32 → Int32 → Int32 → St → Option St) (go23 : Int32 → Int32 → Int32 → Int32 → Int32 → St → Option St) (x1 : Int32) (x2 : Int32) (x3 : Int32) (x5 : Int32) (s0 : Int32) (σ : St) : Option St :=
  go23 x1 x2 x3 s0 (x5 + 1) σ
def fSending_gather_46 (N : Nat) (go12 : Int32 → Int32 → Int32 → St → Option St) (go23 : Int32 → Int32 → Int32 → Int32 → Int32 → St → Option St) (x1 : Int32) (x2 : Int32) (x3 : Int32) (x5 : Int32) (σ : St) : Option St :=
  fSending_gather_51 N go12 go23 x1 x2 x3 x5 1 σ
def fSending_gather_23 (N : Nat) (go12 : Int32 → Int32 → Int32 → St → Option St) : Nat → Int32 → Int32 → Int32 → Int32 → Int32 → St → Option St
  | 0, _, _, _, _, _, _ => none
  | n+1, x1, x2, x3, x4, x5, σ =>
    if x2 ≤ x5 then
      if x4 = 0 then
        go12 x1 x2 (x3 + 1) σ
      else
        chk (inb (σ.1 126 0 0 0) 20) <|
        nm (sI σ 124 0 0 (σ.1 126 0 0 0).toNatClampNeg x3) fun (σ1 : St) =>
        nm (sI σ1 126 0 0 0 ((σ1.1 126 0 0 0) + 1)) fun (σ2 : St) =>
        go12 x1 x2 (x3 + 1) σ2
    else
      if x4 = 0 then
        chk (inb x3 20) <|
        chk (inb x5 24) <|
        if (σ.1 122 (x3.toNatClampNeg) 0 x5.toNatClampNeg) ≤ 0 then
          fSending_gather_51 N go12 (fSending_gather_23 N go12 n) x1 x2 x3 x5 0 σ
        else
          fSending_gather_46 N go12 (fSending_gather_23 N go12 n) x1 x2 x3 x5 σ
      else
        fSending_gather_46 N go12 (fSending_gather_23 N go12 n) x1 x2 x3 x5 σ
def fSending_gather_131 (N : Nat) (go92 : Int32 → Int32 → Int32 → St → Option St) (go103 : Int32 → Int32 → Int32 → Int32 → Int32 → St → Option St) (x1 : Int32) (x2 : Int32) (x3 : Int32) (x5 : Int32) (s0 : Int32) (σ : St) : Option St :=
  go103 x1 x2 x3 s0 (x5 + 1) σ
def fSending_gather_126 (N : Nat) (go92 : Int32 → Int32 → Int32 → St → Option St) (go103 : Int32 → Int32 → Int32 → Int32 → Int32 → St → Option St) (x1 : Int32) (x2 : Int32) (x3 : Int32) (x5 : Int32) (σ : St) : Option St :=
  fSending_gather_131 N go92 go103 x1 x2 x3 x5 1 σ
def fSending_gather_103 (N : Nat) (go92 : Int32 → Int32 → Int32 → St → Option St) : Nat → Int32 → Int32 → Int32 → Int32 → Int32 → St → Option St
  | 0, _, _, _, _, _, _ => none
  | n+1, x1, x2, x3, x4, x5, σ =>
    if x1 ≤ x5 then
      if x4 = 0 then
        go92 x1 x2 (x3 + 1) σ
      else
        chk (inb (σ.1 127 0 0 0) 24) <|
        nm (sI σ 125 0 0 (σ.1 127 0 0 0).toNatClampNeg x3) fun (σ1 : St) =>
        nm (sI σ1 127 0 0 0 ((σ1.1 127 0 0 0) + 1)) fun (σ2 : St) =>
        go92 x1 x2 (x3 + 1) σ2
    else
      if x4 = 0 then
        chk (inb x5 20) <|
        chk (inb x3 24) <|
        if (σ.1 122 (x5.toNatClampNeg) 0 x3.toNatClampNeg) ≤ 0 then
          fSending_gather_131 N go92 (fSending_gather_103 N go92 n) x1 x2 x3 x5 0 σ
        else
          fSending_gather_126 N go92 (fSending_gather_103 N go92 n) x1 x2 x3 x5 σ
      else
        fSending_gather_126 N go92 (fSending_gather_103 N go92 n) x1 x2 x3 x5 σ
def fSending_gather_92 (N : Nat) : Nat → Int32 → Int32 → Int32 → St → Option St
  | 0, _, _, _, _ => none
  | n+1, x1, x2, x3, σ =>
    if x2 ≤ x3 then
      nm (sI σ 128 0 0 0 ((σ.1 126 0 0 0) + (σ.1 127 0 0 0))) fun (σ1 : St) =>
      some σ1
    else
      fSending_gather_103 N (fSending_gather_92 N n) N x1 x2 x3 0 0 σ
def fSending_gather_12 (N : Nat) : Nat → Int32 → Int32 → Int32 → St → Option St
  | 0, _, _, _, _ => none
  | n+1, x1, x2, x3, σ =>
    if x1 ≤ x3 then
      fSending_gather_92 N N x1 x2 0 σ
    else
      fSending_gather_23 N (fSending_gather_12 N n) N x1 x2 x3 0 0 σ
def fSending_gather (N : Nat) (x1 : Int32) (x2 : Int32) (σ : St) : Option St :=
  nm (sI σ 126 0 0 0 0) fun (σ1 : St) =>
  nm (sI σ1 127 0 0 0 0) fun (σ2 : St) =>
  fSending_gather_12 N N x1 x2 0 σ2
def fArrays_fill_Sending_rowPrice_5 (N : Nat) : Nat → Int32 → Int32 → Int32 → St → Option St
  | 0, _, _, _, _ => none
  | n+1, x1, x2, x3, σ =>
    if x3 ≤ x2 then
      some σ
    else
      chk (inb x2 45) <|
      nm (sI σ 129 0 0 x2.toNatClampNeg x1) fun (σ1 : St) =>
      (fArrays_fill_Sending_rowPrice_5 N n) x1 (x2 + 1) x3 σ1
def fArrays_fill_Sending_rowPrice (N : Nat) (x1 : Int32) (σ : St) : Option St :=
  fArrays_fill_Sending_rowPrice_5 N N x1 0 45 σ
def fArrays_fill_Sending_columnPrice_5 (N : Nat) : Nat → Int32 → Int32 → Int32 → St → Option St
  | 0, _, _, _, _ => none
  | n+1, x1, x2, x3, σ =>
    if x3 ≤ x2 then
      some σ
    else
      chk (inb x2 45) <|
      nm (sI σ 130 0 0 x2.toNatClampNeg x1) fun (σ1 : St) =>
      (fArrays_fill_Sending_columnPrice_5 N n) x1 (x2 + 1) x3 σ1
def fArrays_fill_Sending_columnPrice (N : Nat) (x1 : Int32) (σ : St) : Option St :=
  fArrays_fill_Sending_columnPrice_5 N N x1 0 45 σ
def fArrays_fill_Sending_rowAt_5 (N : Nat) : Nat → Int32 → Int32 → Int32 → St → Option St
  | 0, _, _, _, _ => none
  | n+1, x1, x2, x3, σ =>
    if x3 ≤ x2 then
      some σ
    else
      chk (inb x2 45) <|
      nm (sI σ 131 0 0 x2.toNatClampNeg x1) fun (σ1 : St) =>
      (fArrays_fill_Sending_rowAt_5 N n) x1 (x2 + 1) x3 σ1
def fArrays_fill_Sending_rowAt (N : Nat) (x1 : Int32) (σ : St) : Option St :=
  fArrays_fill_Sending_rowAt_5 N N x1 0 45 σ
def fSending_unmark_reached_2 (N : Nat) : Nat → Int32 → St → Option St
  | 0, _, _ => none
  | n+1, x1, σ =>
    if 45 ≤ x1 then
      some σ
    else
      chk (inb x1 45) <|
      nm (sI σ 135 0 0 x1.toNatClampNeg (0 &&& 1)) fun (σ1 : St) =>
      (fSending_unmark_reached_2 N n) (x1 + 1) σ1
def fSending_unmark_reached (N : Nat) (σ : St) : Option St :=
  fSending_unmark_reached_2 N N 0 σ
def fArrays_fill_Sending_least_5 (N : Nat) : Nat → Int32 → Int32 → Int32 → St → Option St
  | 0, _, _, _, _ => none
  | n+1, x1, x2, x3, σ =>
    if x3 ≤ x2 then
      some σ
    else
      chk (inb x2 45) <|
      nm (sI σ 134 0 0 x2.toNatClampNeg x1) fun (σ1 : St) =>
      (fArrays_fill_Sending_least_5 N n) x1 (x2 + 1) x3 σ1
def fArrays_fill_Sending_least (N : Nat) (x1 : Int32) (σ : St) : Option St :=
  fArrays_fill_Sending_least_5 N N x1 0 45 σ
def fSending_isPair (N : Nat) (x1 : Int32) (x2 : Int32) (σ : St) : Option Int32 :=
  if (σ.1 126 0 0 0) < x1 then
    some 0
  else
    if (σ.1 127 0 0 0) < x2 then
      some 0
    else
      chk (inb (x1 - 1) 20) <|
      chk (inb (σ.1 124 0 0 (x1 - 1).toNatClampNeg) 20) <|
      chk (inb (x2 - 1) 24) <|
      chk (inb (σ.1 125 0 0 (x2 - 1).toNatClampNeg) 24) <|
      if (σ.1 122 ((σ.1 124 0 0 (x1 - 1).toNatClampNeg).toNatClampNeg) 0 (σ.1 125 0 0 (x2 - 1).toNatClampNeg).toNatClampNeg) ≤ 0 then
        some 0
      else
        some 1
def fSending_costOf (N : Nat) (x1 : Int32) (x2 : Int32) (σ : St) : Option Int32 :=
  if (σ.1 126 0 0 0) < x1 then
    some 0
  else
    if x2 ≤ (σ.1 127 0 0 0) then
      bn1 (fSending_isPair N x1 x2 σ) fun r1 =>
      if r1 = 0 then
        some 1
      else
        chk (inb (x1 - 1) 20) <|
        chk (inb (σ.1 124 0 0 (x1 - 1).toNatClampNeg) 20) <|
        chk (inb (x2 - 1) 24) <|
        chk (inb (σ.1 125 0 0 (x2 - 1).toNatClampNeg) 24) <|
        some (-(σ.1 122 ((σ.1 124 0 0 (x1 - 1).toNatClampNeg).toNatClampNeg) 0 (σ.1 125 0 0 (x2 - 1).toNatClampNeg).toNatClampNeg))
    else
      some 0
def fSending_overPrice (N : Nat) (x1 : Int32) (x2 : Int32) (σ : St) : Option Int32 :=
  bn1 (fSending_costOf N x1 x2 σ) fun r1 =>
  chk (inb x1 45) <|
  chk (inb x2 45) <|
  some ((r1 - (σ.1 129 0 0 x1.toNatClampNeg)) - (σ.1 130 0 0 x2.toNatClampNeg))
def fSending_reachFrom_76 (N : Nat) (go16 : Int32 → Int32 → Int32 → Int32 → Int32 → St → Option (Int32 × St)) (x1 : Int32) (x2 : Int32) (x3 : Int32) (x4 : Int32) (x5 : Int32) (σ : St) : Option (Int32 × St) :=
  chk (inb x5 45) <|
  if x4 ≤ (σ.1 134 0 0 x5.toNatClampNeg) then
    go16 x1 x2 x3 x4 (x5 + 1) σ
  else
    nm ((σ.1 134 0 0 x5.toNatClampNeg)) fun (y1 : Int32) =>
    go16 x1 x2 x5 y1 (x5 + 1) σ
def fSending_reachFrom_109 (N : Nat) : Nat → Int32 → Int32 → Int32 → St → Option (Int32 × St)
  | 0, _, _, _, _ => none
  | n+1, x3, x4, x5, σ =>
    if (σ.1 128 0 0 0) < x5 then
      some (x3, σ)
    else
      chk (inb x5 45) <|
      if (σ.1 135 0 0 x5.toNatClampNeg) = 0 then
        nm (sI σ 134 0 0 x5.toNatClampNeg ((σ.1 134 0 0 x5.toNatClampNeg) - x4)) fun (σ1 : St) =>
        (fSending_reachFrom_109 N n) x3 x4 (x5 + 1) σ1
      else
        chk (inb (σ.1 131 0 0 x5.toNatClampNeg) 45) <|
        nm (sI σ 129 0 0 (σ.1 131 0 0 x5.toNatClampNeg).toNatClampNeg ((σ.1 129 0 0 (σ.1 131 0 0 x5.toNatClampNeg).toNatClampNeg) + x4)) fun (σ2 : St) =>
        nm (sI σ2 130 0 0 x5.toNatClampNeg ((σ2.1 130 0 0 x5.toNatClampNeg) - x4)) fun (σ3 : St) =>
        (fSending_reachFrom_109 N n) x3 x4 (x5 + 1) σ3
def fSending_reachFrom_16 (N : Nat) : Nat → Int32 → Int32 → Int32 → Int32 → Int32 → St → Option (Int32 × St)
  | 0, _, _, _, _, _, _ => none
  | n+1, x1, x2, x3, x4, x5, σ =>
    if (σ.1 128 0 0 0) < x5 then
      fSending_reachFrom_109 N N x3 x4 0 σ
    else
      chk (inb x5 45) <|
      if (σ.1 135 0 0 x5.toNatClampNeg) = 0 then
        bn1 (fSending_overPrice N x2 x5 σ) fun r1 =>
        if (σ.1 134 0 0 x5.toNatClampNeg) ≤ r1 then
          fSending_reachFrom_76 N (fSending_reachFrom_16 N n) x1 x2 x3 x4 x5 σ
        else
          nm (sI σ 134 0 0 x5.toNatClampNeg r1) fun (σ2 : St) =>
          nm (sI σ2 133 0 0 x5.toNatClampNeg x1) fun (σ3 : St) =>
          fSending_reachFrom_76 N (fSending_reachFrom_16 N n) x1 x2 x3 x4 x5 σ3
      else
        (fSending_reachFrom_16 N n) x1 x2 x3 x4 (x5 + 1) σ
def fSending_reachFrom (N : Nat) (x1 : Int32) (σ : St) : Option (Int32 × St) :=
  chk (inb x1 45) <|
  nm ((σ.1 131 0 0 x1.toNatClampNeg)) fun (y1 : Int32) =>
  fSending_reachFrom_16 N N x1 y1 0 1000000000 1 σ
def fSending_place_65 (N : Nat) : Nat → Int32 → Int32 → St → Option St
  | 0, _, _, _ => none
  | n+1, x2, x3, σ =>
    if (σ.1 128 0 0 0) < x3 then
      some σ
    else
      if x2 = 0 then
        some σ
      else
        chk (inb x2 45) <|
        chk (inb (σ.1 133 0 0 x2.toNatClampNeg) 45) <|
        nm (sI σ 131 0 0 x2.toNatClampNeg (σ.1 131 0 0 (σ.1 133 0 0 x2.toNatClampNeg).toNatClampNeg)) fun (σ1 : St) =>
        nm ((σ1.1 133 0 0 x2.toNatClampNeg)) fun (y2 : Int32) =>
        (fSending_place_65 N n) y2 (x3 + 1) σ1
def fSending_place_63 (N : Nat) (x2 : Int32) (σ : St) : Option St :=
  fSending_place_65 N N x2 0 σ
def fSending_place_27 (N : Nat) : Nat → Int32 → Int32 → St → Option St
  | 0, _, _, _ => none
  | n+1, x2, x3, σ =>
    if (σ.1 128 0 0 0) < x3 then
      fSending_place_63 N x2 σ
    else
      chk (inb x2 45) <|
      if (σ.1 131 0 0 x2.toNatClampNeg) = 0 then
        fSending_place_63 N x2 σ
      else
        nm (sI σ 135 0 0 x2.toNatClampNeg (1 &&& 1)) fun (σ1 : St) =>
        bnd (fSending_reachFrom N x2 σ1) fun r2 σ3 =>
        (fSending_place_27 N n) r2 (x3 + 1) σ3
def fSending_place (N : Nat) (x1 : Int32) (σ : St) : Option St :=
  bn1 (fSending_unmark_reached N σ) fun σ1 =>
  bn1 (fArrays_fill_Sending_least N 1000000000 σ1) fun σ2 =>
  nm (sI σ2 131 0 0 0 x1) fun (σ3 : St) =>
  fSending_place_27 N N 0 0 σ3
def fSending_unmark_settled_2 (N : Nat) : Nat → Int32 → St → Option St
  | 0, _, _ => none
  | n+1, x1, σ =>
    if 45 ≤ x1 then
      some σ
    else
      chk (inb x1 45) <|
      nm (sI σ 136 0 0 x1.toNatClampNeg (0 &&& 1)) fun (σ1 : St) =>
      (fSending_unmark_settled_2 N n) (x1 + 1) σ1
def fSending_unmark_settled (N : Nat) (σ : St) : Option St :=
  fSending_unmark_settled_2 N N 0 σ
def fArrays_fill_Sending_sentTo_5 (N : Nat) : Nat → Int32 → Int32 → Int32 → St → Option St
  | 0, _, _, _, _ => none
  | n+1, x1, x2, x3, σ =>
    if x3 ≤ x2 then
      some σ
    else
      chk (inb x2 20) <|
      nm (sI σ 123 0 0 x2.toNatClampNeg x1) fun (σ1 : St) =>
      (fArrays_fill_Sending_sentTo_5 N n) x1 (x2 + 1) x3 σ1
def fArrays_fill_Sending_sentTo (N : Nat) (x1 : Int32) (σ : St) : Option St :=
  fArrays_fill_Sending_sentTo_5 N N x1 0 20 σ
def fSending_moveOn_5 (N : Nat) : Nat → Int32 → Int32 → Int32 → St → Option St
  | 0, _, _, _, _ => none
  | n+1, x2, x3, x4, σ =>
    if (σ.1 128 0 0 0) < x4 then
      some σ
    else
      if x3 = x2 then
        some σ
      else
        chk (inb x3 45) <|
        nm ((σ.1 133 0 0 x3.toNatClampNeg)) fun (y1 : Int32) =>
        chk (inb y1 45) <|
        nm ((σ.1 132 0 0 y1.toNatClampNeg)) fun (y2 : Int32) =>
        nm (sI σ 132 0 0 y1.toNatClampNeg x3) fun (σ3 : St) =>
        nm (sI σ3 131 0 0 x3.toNatClampNeg y1) fun (σ4 : St) =>
        (fSending_moveOn_5 N n) x2 y2 (x4 + 1) σ4
def fSending_moveOn (N : Nat) (x1 : Int32) (x2 : Int32) (σ : St) : Option St :=
  fSending_moveOn_5 N N x2 x1 0 σ
def fSending_exchange_58 (N : Nat) (go39 : Int32 → Int32 → Int32 → Int32 → Int32 → St → Option (Int32 × St)) : Nat → Int32 → Int32 → Int32 → Int32 → Int32 → Int32 → St → Option (Int32 × St)
  | 0, _, _, _, _, _, _, _ => none
  | n+1, x1, x2, x3, x4, x5, x6, σ =>
    if (σ.1 128 0 0 0) < x6 then
      go39 x1 x2 x3 x4 (x5 + 1) σ
    else
      chk (inb x6 45) <|
      if (σ.1 135 0 0 x6.toNatClampNeg) = 0 then
        if (σ.1 136 0 0 x6.toNatClampNeg) = 0 then
          chk (inb x5 45) <|
          bn1 (fSending_overPrice N (σ.1 137 0 0 x5.toNatClampNeg) x6 σ) fun r1 =>
          if r1 = 0 then
            nm (sI σ 135 0 0 x6.toNatClampNeg (1 &&& 1)) fun (σ2 : St) =>
            nm (sI σ2 133 0 0 x6.toNatClampNeg (σ2.1 137 0 0 x5.toNatClampNeg)) fun (σ3 : St) =>
            if x6 = x3 then
              (fSending_exchange_58 N go39 n) x1 x2 x3 x4 x5 (x6 + 1) σ3
            else
              if 45 ≤ x4 then
                (fSending_exchange_58 N go39 n) x1 x2 x3 x4 x5 (x6 + 1) σ3
              else
                chk (inb x4 45) <|
                nm (sI σ3 137 0 0 x4.toNatClampNeg (σ3.1 131 0 0 x6.toNatClampNeg)) fun (σ4 : St) =>
                (fSending_exchange_58 N go39 n) x1 x2 x3 (x4 + 1) x5 (x6 + 1) σ4
          else
            (fSending_exchange_58 N go39 n) x1 x2 x3 x4 x5 (x6 + 1) σ
        else
          (fSending_exchange_58 N go39 n) x1 x2 x3 x4 x5 (x6 + 1) σ
      else
        (fSending_exchange_58 N go39 n) x1 x2 x3 x4 x5 (x6 + 1) σ
def fSending_exchange_199 (N : Nat) (x3 : Int32) (σ : St) : Option (Int32 × St) :=
  chk (inb x3 45) <|
  some (((σ.1 135 0 0 x3.toNatClampNeg) &&& 1), σ)
def fSending_exchange_170 (N : Nat) (x1 : Int32) (x2 : Int32) (x3 : Int32) (σ : St) : Option (Int32 × St) :=
  chk (inb x3 45) <|
  if (σ.1 135 0 0 x3.toNatClampNeg) = 0 then
    fSending_exchange_199 N x3 σ
  else
    bn1 (fSending_moveOn N x3 x2 σ) fun σ1 =>
    chk (inb x1 45) <|
    nm (sI σ1 132 0 0 x1.toNatClampNeg x2) fun (σ2 : St) =>
    chk (inb x2 45) <|
    nm (sI σ2 131 0 0 x2.toNatClampNeg x1) fun (σ3 : St) =>
    fSending_exchange_199 N x3 σ3
def fSending_exchange_39 (N : Nat) : Nat → Int32 → Int32 → Int32 → Int32 → Int32 → St → Option (Int32 × St)
  | 0, _, _, _, _, _, _ => none
  | n+1, x1, x2, x3, x4, x5, σ =>
    if x4 ≤ x5 then
      fSending_exchange_170 N x1 x2 x3 σ
    else
      chk (inb x3 45) <|
      if (σ.1 135 0 0 x3.toNatClampNeg) = 0 then
        fSending_exchange_58 N (fSending_exchange_39 N n) N x1 x2 x3 x4 x5 1 σ
      else
        fSending_exchange_170 N x1 x2 x3 σ
def fSending_exchange (N : Nat) (x1 : Int32) (x2 : Int32) (σ : St) : Option (Int32 × St) :=
  chk (inb x1 45) <|
  nm ((σ.1 132 0 0 x1.toNatClampNeg)) fun (y1 : Int32) =>
  bn1 (fSending_unmark_reached N σ) fun σ2 =>
  chk (inb x2 45) <|
  nm (sI σ2 135 0 0 x2.toNatClampNeg (1 &&& 1)) fun (σ3 : St) =>
  nm (sI σ3 137 0 0 0 (σ3.1 131 0 0 x2.toNatClampNeg)) fun (σ4 : St) =>
  fSending_exchange_39 N N x1 x2 y1 1 0 σ4
def fSending_settleRow_66 (N : Nat) (x1 : Int32) (x2 : Int32) (σ : St) : Option (Int32 × St) :=
  chk (inb x2 45) <|
  nm (sI σ 136 0 0 x2.toNatClampNeg (1 &&& 1)) fun (σ1 : St) =>
  chk (inb (x1 - 1) 20) <|
  chk (inb (x2 - 1) 24) <|
  chk (inb (σ1.1 124 0 0 (x1 - 1).toNatClampNeg) 20) <|
  nm (sI σ1 123 0 0 (σ1.1 124 0 0 (x1 - 1).toNatClampNeg).toNatClampNeg (σ1.1 125 0 0 (x2 - 1).toNatClampNeg)) fun (σ2 : St) =>
  chk (inb (σ2.1 124 0 0 (x1 - 1).toNatClampNeg) 20) <|
  chk (inb (σ2.1 125 0 0 (x2 - 1).toNatClampNeg) 24) <|
  some ((σ2.1 122 ((σ2.1 124 0 0 (x1 - 1).toNatClampNeg).toNatClampNeg) 0 (σ2.1 125 0 0 (x2 - 1).toNatClampNeg).toNatClampNeg), σ2)
def fSending_settleRow_42 (N : Nat) (go2 : Int32 → Int32 → St → Option (Int32 × St)) (x1 : Int32) (x2 : Int32) (s0 : Int32) (σ : St) : Option (Int32 × St) :=
  if s0 = 0 then
    go2 x1 (x2 + 1) σ
  else
    chk (inb x1 45) <|
    if (σ.1 132 0 0 x1.toNatClampNeg) = x2 then
      fSending_settleRow_66 N x1 x2 σ
    else
      bnd (fSending_exchange N x1 x2 σ) fun r1 σ2 =>
      if r1 = 0 then
        go2 x1 (x2 + 1) σ2
      else
        fSending_settleRow_66 N x1 x2 σ2
def fSending_settleRow_41 (N : Nat) (go2 : Int32 → Int32 → St → Option (Int32 × St)) (x1 : Int32) (x2 : Int32) (σ : St) : Option (Int32 × St) :=
  fSending_settleRow_42 N go2 x1 x2 0 σ
def fSending_settleRow_2 (N : Nat) : Nat → Int32 → Int32 → St → Option (Int32 × St)
  | 0, _, _, _ => none
  | n+1, x1, x2, σ =>
    if (σ.1 127 0 0 0) < x2 then
      chk (inb x1 45) <|
      chk (inb (σ.1 132 0 0 x1.toNatClampNeg) 45) <|
      nm (sI σ 136 0 0 (σ.1 132 0 0 x1.toNatClampNeg).toNatClampNeg (1 &&& 1)) fun (σ1 : St) =>
      some (0, σ1)
    else
      bn1 (fSending_isPair N x1 x2 σ) fun r2 =>
      if r2 = 0 then
        fSending_settleRow_41 N (fSending_settleRow_2 N n) x1 x2 σ
      else
        chk (inb x2 45) <|
        if (σ.1 136 0 0 x2.toNatClampNeg) = 0 then
          bn1 (fSending_overPrice N x1 x2 σ) fun r3 =>
          if r3 = 0 then
            fSending_settleRow_42 N (fSending_settleRow_2 N n) x1 x2 1 σ
          else
            fSending_settleRow_41 N (fSending_settleRow_2 N n) x1 x2 σ
        else
          fSending_settleRow_41 N (fSending_settleRow_2 N n) x1 x2 σ
def fSending_settleRow (N : Nat) (x1 : Int32) (σ : St) : Option (Int32 × St) :=
  fSending_settleRow_2 N N x1 1 σ
def fSending_sendBest_99 (N : Nat) : Nat → Int32 → Int32 → St → Option (Int32 × St)
  | 0, _, _, _ => none
  | n+1, x3, x4, σ =>
    if (σ.1 126 0 0 0) < x4 then
      some (x3, σ)
    else
      bnd (fSending_settleRow N x4 σ) fun r1 σ2 =>
      nm ((x3 + r1)) fun (y3 : Int32) =>
      (fSending_sendBest_99 N n) y3 (x4 + 1) σ2
def fSending_sendBest_53 (N : Nat) : Nat → Int32 → St → Option (Int32 × St)
  | 0, _, _ => none
  | n+1, x3, σ =>
    if (σ.1 128 0 0 0) < x3 then
      bn1 (fSending_unmark_settled N σ) fun σ1 =>
      bn1 (fArrays_fill_Sending_sentTo N (-1) σ1) fun σ2 =>
      fSending_sendBest_99 N N 0 1 σ2
    else
      chk (inb x3 45) <|
      chk (inb (σ.1 131 0 0 x3.toNatClampNeg) 45) <|
      nm (sI σ 132 0 0 (σ.1 131 0 0 x3.toNatClampNeg).toNatClampNeg x3) fun (σ3 : St) =>
      (fSending_sendBest_53 N n) (x3 + 1) σ3
def fSending_sendBest_32 (N : Nat) : Nat → Int32 → St → Option (Int32 × St)
  | 0, _, _ => none
  | n+1, x3, σ =>
    if (σ.1 128 0 0 0) < x3 then
      fSending_sendBest_53 N N 1 σ
    else
      bn1 (fSending_place N x3 σ) fun σ1 =>
      (fSending_sendBest_32 N n) (x3 + 1) σ1
def fSending_sendBest (N : Nat) (x1 : Int32) (x2 : Int32) (σ : St) : Option (Int32 × St) :=
  bn1 (fSending_gather N x1 x2 σ) fun σ1 =>
  bn1 (fArrays_fill_Sending_rowPrice N 0 σ1) fun σ2 =>
  bn1 (fArrays_fill_Sending_columnPrice N 0 σ2) fun σ3 =>
  bn1 (fArrays_fill_Sending_rowAt N 0 σ3) fun σ4 =>
  fSending_sendBest_32 N N 1 σ4
def fX_send (N : Nat) (σ : St) : Option (Int32 × St) :=
  bn1 (fX_tellGains N σ) fun σ1 =>
  bnd (fSending_sendBest N (σ1.1 52 0 0 0) (σ1.1 102 0 0 0) σ1) fun r2 σ3 =>
  some (r2, σ3)
def fX_price_45 (N : Nat) (x1 : Int32) (x2 : Int32) (x3 : Int32) (s0 : Int32) (s1 : Int32) (s2 : Int32) (σ : St) : Option (Int32 × St) :=
  bn1 (fX_outside N s0 s1 (s2 - 1) σ) fun r1 =>
  if r1 = 0 then
    if x1 = 0 then
      chk (inb x2 20) <|
      nm (sI σ 108 0 0 x2.toNatClampNeg x3) fun (σ3 : St) =>
      some (1, σ3)
    else
      chk (inb x2 24) <|
      nm (sI σ 109 0 0 x2.toNatClampNeg x3) fun (σ2 : St) =>
      some (1, σ2)
  else
    some (0, σ)
def fX_price (N : Nat) (x1 : Int32) (x2 : Int32) (x3 : Int32) (σ : St) : Option (Int32 × St) :=
  bn1 (fX_outside N x1 0 1 σ) fun r1 =>
  if r1 = 0 then
    bn1 (fX_outside N x3 0 9999 σ) fun r2 =>
    if r2 = 0 then
      if x1 = 0 then
        fX_price_45 N x1 x2 x3 x2 0 (σ.1 52 0 0 0) σ
      else
        fX_price_45 N x1 x2 x3 x2 0 (σ.1 102 0 0 0) σ
    else
      some (0, σ)
  else
    some (0, σ)
def fX_proves_21 (N : Nat) (go8 : Int32 → Int32 → St → Option (Int32 × St)) : Nat → Int32 → Int32 → Int32 → St → Option (Int32 × St)
  | 0, _, _, _, _ => none
  | n+1, x1, x2, x3, σ =>
    if (σ.1 102 0 0 0) ≤ x3 then
      chk (inb x2 20) <|
      nm ((x1 + (σ.1 108 0 0 x2.toNatClampNeg))) fun (y1 : Int32) =>
      go8 y1 (x2 + 1) σ
    else
      chk (inb x2 20) <|
      chk (inb x3 24) <|
      if (σ.1 122 (x2.toNatClampNeg) 0 x3.toNatClampNeg) ≤ ((σ.1 108 0 0 x2.toNatClampNeg) + (σ.1 109 0 0 x3.toNatClampNeg)) then
        (fX_proves_21 N go8 n) x1 x2 (x3 + 1) σ
      else
        some ((-1), σ)
def fX_proves_93 (N : Nat) : Nat → Int32 → Int32 → St → Option (Int32 × St)
  | 0, _, _, _ => none
  | n+1, x1, x2, σ =>
    if (σ.1 102 0 0 0) ≤ x2 then
      some (x1, σ)
    else
      chk (inb x2 24) <|
      nm ((x1 + (σ.1 109 0 0 x2.toNatClampNeg))) fun (y1 : Int32) =>
      (fX_proves_93 N n) y1 (x2 + 1) σ
def fX_proves_8 (N : Nat) : Nat → Int32 → Int32 → St → Option (Int32 × St)
  | 0, _, _, _ => none
  | n+1, x1, x2, σ =>
    if (σ.1 52 0 0 0) ≤ x2 then
      fX_proves_93 N N x1 0 σ
    else
      fX_proves_21 N (fX_proves_8 N n) N x1 x2 0 σ
def fX_proves (N : Nat) (σ : St) : Option (Int32 × St) :=
  bn1 (fX_tellGains N σ) fun σ1 =>
  fX_proves_8 N N 0 0 σ1
def fCourts_addJudge (N : Nat) (x1 : Int32) (x2 : Int32) (σ : St) : Option (Int32 × St) :=
  chk (inb (σ.1 29 0 0 0) 18) <|
  nm (sI σ 27 0 0 (σ.1 29 0 0 0).toNatClampNeg x1) fun (σ1 : St) =>
  chk (inb (σ1.1 29 0 0 0) 18) <|
  nm (sI σ1 28 0 0 (σ1.1 29 0 0 0).toNatClampNeg x2) fun (σ2 : St) =>
  nm (sI σ2 29 0 0 0 ((σ2.1 29 0 0 0) + 1)) fun (σ3 : St) =>
  some (((σ3.1 29 0 0 0) - 1), σ3)
def fX_judge (N : Nat) (x1 : Int32) (x2 : Int32) (σ : St) : Option (Int32 × St) :=
  if 18 ≤ (σ.1 29 0 0 0) then
    some ((-1), σ)
  else
    bn1 (fX_outside N x1 0 2 σ) fun r1 =>
    if r1 = 0 then
      bn1 (fX_outside N x2 0 99 σ) fun r2 =>
      if r2 = 0 then
        bnd (fCourts_addJudge N x1 x2 σ) fun r3 σ4 =>
        some (r3, σ4)
      else
        some ((-1), σ)
    else
      some ((-1), σ)
