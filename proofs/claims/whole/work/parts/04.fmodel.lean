def fM_office (N : Nat) (x1 : Int32) (x2 : Int32) (σ : St) : Option (Int32 × St) :=
  nm (sI σ 204 0 0 0 0) fun (σ1 : St) =>
  if (σ1.1 207 0 0 0) = 8 then
    some ((-1), σ1)
  else
    if x1 < 0 then
      some ((-1), σ1)
    else
      if 99 < x1 then
        some ((-1), σ1)
      else
        if x2 < 0 then
          some ((-1), σ1)
        else
          if x2 ≤ 99 then
            chk (inb (σ1.1 207 0 0 0) 8) <|
            nm (sI σ1 209 0 0 (σ1.1 207 0 0 0).toNatClampNeg x1) fun (σ2 : St) =>
            chk (inb (σ2.1 207 0 0 0) 8) <|
            nm (sI σ2 210 0 0 (σ2.1 207 0 0 0).toNatClampNeg x2) fun (σ3 : St) =>
            nm (sI σ3 207 0 0 0 ((σ3.1 207 0 0 0) + 1)) fun (σ4 : St) =>
            some (((σ4.1 207 0 0 0) - 1), σ4)
          else
            some ((-1), σ1)
def fM_person_70 (N : Nat) (x1 : Int32) (x2 : Int32) (x3 : Int32) (x4 : Int32) (x5 : Int32) (s0 : Int32) (σ : St) : Option (Int32 × St) :=
  if (σ.1 208 0 0 0) = 20 then
    some ((-1), σ)
  else
    if s0 = 0 then
      some ((-1), σ)
    else
      chk (inb (σ.1 208 0 0 0) 20) <|
      nm (sI σ 211 0 0 (σ.1 208 0 0 0).toNatClampNeg x1) fun (σ1 : St) =>
      chk (inb (σ1.1 208 0 0 0) 20) <|
      nm (sI σ1 212 0 0 (σ1.1 208 0 0 0).toNatClampNeg x2) fun (σ2 : St) =>
      chk (inb (σ2.1 208 0 0 0) 20) <|
      nm (sI σ2 213 0 0 (σ2.1 208 0 0 0).toNatClampNeg x3) fun (σ3 : St) =>
      chk (inb (σ3.1 208 0 0 0) 20) <|
      nm (sI σ3 214 0 0 (σ3.1 208 0 0 0).toNatClampNeg x4) fun (σ4 : St) =>
      chk (inb (σ4.1 208 0 0 0) 20) <|
      nm (sI σ4 215 0 0 (σ4.1 208 0 0 0).toNatClampNeg x5) fun (σ5 : St) =>
      nm (sI σ5 208 0 0 0 ((σ5.1 208 0 0 0) + 1)) fun (σ6 : St) =>
      nm (sI σ6 273 0 0 0 0) fun (σ7 : St) =>
      some (((σ7.1 208 0 0 0) - 1), σ7)
def fM_person_69 (N : Nat) (x1 : Int32) (x2 : Int32) (x3 : Int32) (x4 : Int32) (x5 : Int32) (σ : St) : Option (Int32 × St) :=
  fM_person_70 N x1 x2 x3 x4 x5 0 σ
def fM_person (N : Nat) (x1 : Int32) (x2 : Int32) (x3 : Int32) (x4 : Int32) (x5 : Int32) (σ : St) : Option (Int32 × St) :=
  nm (sI σ 204 0 0 0 0) fun (σ1 : St) =>
  if x1 < 0 then
    fM_person_69 N x1 x2 x3 x4 x5 σ1
  else
    if 7 < x1 then
      fM_person_69 N x1 x2 x3 x4 x5 σ1
    else
      if x2 < 14 then
        fM_person_69 N x1 x2 x3 x4 x5 σ1
      else
        if 90 < x2 then
          fM_person_69 N x1 x2 x3 x4 x5 σ1
        else
          if x3 < 0 then
            fM_person_69 N x1 x2 x3 x4 x5 σ1
          else
            if (σ1.1 207 0 0 0) ≤ x3 then
              fM_person_69 N x1 x2 x3 x4 x5 σ1
            else
              if x4 < 1 then
                fM_person_69 N x1 x2 x3 x4 x5 σ1
              else
                if 999 < x4 then
                  fM_person_69 N x1 x2 x3 x4 x5 σ1
                else
                  if x5 < 0 then
                    fM_person_69 N x1 x2 x3 x4 x5 σ1
                  else
                    if 99 < x5 then
                      fM_person_69 N x1 x2 x3 x4 x5 σ1
                    else
                      fM_person_70 N x1 x2 x3 x4 x5 1 σ1
def fM_feed_76 (N : Nat) (go23 : Int32 → Int32 → Int32 → Int32 → Int32 → Int32 → St → Option (Int32 × St)) (x1 : Int32) (x2 : Int32) (x3 : Int32) (x4 : Int32) (x5 : Int32) (x6 : Int32) (s0 : Int32) (σ : St) : Option (Int32 × St) :=
  chk (inb (σ.1 247 0 0 0) 600) <|
  nm (sI σ 246 0 0 (σ.1 247 0 0 0).toNatClampNeg ((s0 >>> ((24 - (8 * (irem x6 4))) &&& 31)) &&& 255)) fun (σ1 : St) =>
  nm (sI σ1 247 0 0 0 ((σ1.1 247 0 0 0) + 1)) fun (σ2 : St) =>
  go23 x1 x2 x3 x4 x5 (x6 + 1) σ2
def fM_feed_23 (N : Nat) : Nat → Int32 → Int32 → Int32 → Int32 → Int32 → Int32 → St → Option (Int32 × St)
  | 0, _, _, _, _, _, _, _ => none
  | n+1, x1, x2, x3, x4, x5, x6, σ =>
    if 20 ≤ x6 then
      some ((σ.1 247 0 0 0), σ)
    else
      if 4 ≤ x6 then
        if 8 ≤ x6 then
          if 12 ≤ x6 then
            if 16 ≤ x6 then
              fM_feed_76 N (fM_feed_23 N n) x1 x2 x3 x4 x5 x6 x5 σ
            else
              fM_feed_76 N (fM_feed_23 N n) x1 x2 x3 x4 x5 x6 x4 σ
          else
            fM_feed_76 N (fM_feed_23 N n) x1 x2 x3 x4 x5 x6 x3 σ
        else
          fM_feed_76 N (fM_feed_23 N n) x1 x2 x3 x4 x5 x6 x2 σ
      else
        fM_feed_76 N (fM_feed_23 N n) x1 x2 x3 x4 x5 x6 x1 σ
def fM_feed (N : Nat) (x1 : Int32) (x2 : Int32) (x3 : Int32) (x4 : Int32) (x5 : Int32) (σ : St) : Option (Int32 × St) :=
  nm (sI σ 204 0 0 0 0) fun (σ1 : St) =>
  if ((σ1.1 247 0 0 0) + 20) ≤ 600 then
    fM_feed_23 N N x1 x2 x3 x4 x5 0 σ1
  else
    some ((-1), σ1)
def fM_isPerson (N : Nat) (x1 : Int32) (σ : St) : Option Int32 :=
  if x1 < 0 then
    some 0
  else
    if (σ.1 208 0 0 0) ≤ x1 then
      some 0
    else
      some 1
def fM_fail (N : Nat) (σ : St) : Option (Int32 × St) :=
  nm (sI σ 204 0 0 0 1) fun (σ1 : St) =>
  some (0, σ1)
def fM_book_139 (N : Nat) (go105 : Int32 → Int32 → St → Option (Int32 × St)) (x3 : Int32) (x4 : Int32) (s0 : Int32) (σ : St) : Option (Int32 × St) :=
  chk (inb ((52 * (σ.1 216 0 0 0)) + x4) 3120) <|
  nm (sI σ 224 0 0 ((52 * (σ.1 216 0 0 0)) + x4).toNatClampNeg s0) fun (σ1 : St) =>
  go105 x3 (x4 + 1) σ1
def fM_book_174 (N : Nat) (σ : St) : Option (Int32 × St) :=
  nm (sI σ 216 0 0 0 ((σ.1 216 0 0 0) + 1)) fun (σ1 : St) =>
  nm (sI σ1 273 0 0 0 0) fun (σ2 : St) =>
  some (1, σ2)
def fM_book_105 (N : Nat) : Nat → Int32 → Int32 → St → Option (Int32 × St)
  | 0, _, _, _ => none
  | n+1, x3, x4, σ =>
    if x3 ≤ x4 then
      if x3 = (-1) then
        fM_book_174 N σ
      else
        nm (sI σ 247 0 0 0 0) fun (σ1 : St) =>
        fM_book_174 N σ1
    else
      chk (inb x4 600) <|
      if (σ.1 246 0 0 x4.toNatClampNeg) ≤ 127 then
        bn1 (fMath_min_I N 6 (σ.1 246 0 0 x4.toNatClampNeg) σ) fun r2 =>
        fM_book_139 N (fM_book_105 N n) x3 x4 r2 σ
      else
        fM_book_139 N (fM_book_105 N n) x3 x4 0 σ
def fM_book (N : Nat) (x1 : Int32) (x2 : Int32) (x3 : Int32) (σ : St) : Option (Int32 × St) :=
  nm (sI σ 204 0 0 0 0) fun (σ1 : St) =>
  bn1 (fM_isPerson N x1 σ1) fun r2 =>
  if r2 = 0 then
    bnd (fM_fail N σ1) fun r7 σ8 =>
    some (0, σ8)
  else
    if x2 < 0 then
      some (0, σ1)
    else
      if 2 < x2 then
        some (0, σ1)
      else
        if x3 < (-1) then
          some (0, σ1)
        else
          if 52 < x3 then
            some (0, σ1)
          else
            if (σ1.1 247 0 0 0) < x3 then
              some (0, σ1)
            else
              if (σ1.1 216 0 0 0) = 60 then
                some (0, σ1)
              else
                chk (inb (σ1.1 216 0 0 0) 60) <|
                nm (sI σ1 220 0 0 (σ1.1 216 0 0 0).toNatClampNeg x1) fun (σ3 : St) =>
                chk (inb (σ3.1 216 0 0 0) 60) <|
                nm (sI σ3 221 0 0 (σ3.1 216 0 0 0).toNatClampNeg x2) fun (σ4 : St) =>
                chk (inb (σ4.1 216 0 0 0) 60) <|
                nm (sI σ4 222 0 0 (σ4.1 216 0 0 0).toNatClampNeg x3) fun (σ5 : St) =>
                chk (inb (σ5.1 216 0 0 0) 60) <|
                nm (sI σ5 223 0 0 (σ5.1 216 0 0 0).toNatClampNeg (σ5.1 205 0 0 0)) fun (σ6 : St) =>
                fM_book_105 N N x3 0 σ6
def fM_thrown (N : Nat) (σ : St) : Option Int32 :=
  some (σ.1 204 0 0 0)
def fM_returns (N : Nat) (x1 : Int32) (x2 : Int32) (x3 : Int32) (σ : St) : Option (Int32 × St) :=
  nm (sI σ 204 0 0 0 0) fun (σ1 : St) =>
  bn1 (fM_isPerson N x1 σ1) fun r2 =>
  if r2 = 0 then
    bnd (fM_fail N σ1) fun r9 σ10 =>
    some (0, σ10)
  else
    if x2 < 0 then
      some (0, σ1)
    else
      if 156 ≤ x2 then
        some (0, σ1)
      else
        if x3 < (-1) then
          some (0, σ1)
        else
          if 6 < x3 then
            some (0, σ1)
          else
            if (σ1.1 217 0 0 0) = 100 then
              some (0, σ1)
            else
              chk (inb (σ1.1 217 0 0 0) 100) <|
              nm (sI σ1 225 0 0 (σ1.1 217 0 0 0).toNatClampNeg x1) fun (σ3 : St) =>
              chk (inb (σ3.1 217 0 0 0) 100) <|
              nm (sI σ3 226 0 0 (σ3.1 217 0 0 0).toNatClampNeg x2) fun (σ4 : St) =>
              chk (inb (σ4.1 217 0 0 0) 100) <|
              nm (sI σ4 227 0 0 (σ4.1 217 0 0 0).toNatClampNeg x3) fun (σ5 : St) =>
              chk (inb (σ5.1 217 0 0 0) 100) <|
              nm (sI σ5 228 0 0 (σ5.1 217 0 0 0).toNatClampNeg (σ5.1 205 0 0 0)) fun (σ6 : St) =>
              nm (sI σ6 217 0 0 0 ((σ6.1 217 0 0 0) + 1)) fun (σ7 : St) =>
              nm (sI σ7 273 0 0 0 0) fun (σ8 : St) =>
              some (1, σ8)
def fM_theDay (N : Nat) (σ : St) : Option Int32 :=
  if (σ.1 206 0 0 0) = (-1) then
    some (σ.1 205 0 0 0)
  else
    some (σ.1 206 0 0 0)
def fM_tellBooks_92 (N : Nat) : Nat → Int32 → Int32 → St → Option St
  | 0, _, _, _ => none
  | n+1, x1, x2, σ =>
    if (σ.1 217 0 0 0) ≤ x2 then
      some σ
    else
      chk (inb x2 100) <|
      if x1 < (σ.1 228 0 0 x2.toNatClampNeg) then
        (fM_tellBooks_92 N n) x1 (x2 + 1) σ
      else
        chk (inb ((156 * (σ.1 225 0 0 x2.toNatClampNeg)) + (σ.1 226 0 0 x2.toNatClampNeg)) 3120) <|
        nm (sI σ 261 0 0 ((156 * (σ.1 225 0 0 x2.toNatClampNeg)) + (σ.1 226 0 0 x2.toNatClampNeg)).toNatClampNeg (σ.1 227 0 0 x2.toNatClampNeg)) fun (σ1 : St) =>
        (fM_tellBooks_92 N n) x1 (x2 + 1) σ1
def fM_tellBooks_45 (N : Nat) : Nat → Int32 → Int32 → St → Option St
  | 0, _, _, _ => none
  | n+1, x1, x2, σ =>
    if (σ.1 216 0 0 0) ≤ x2 then
      fM_tellBooks_92 N N x1 0 σ
    else
      chk (inb x2 60) <|
      if x1 < (σ.1 223 0 0 x2.toNatClampNeg) then
        (fM_tellBooks_45 N n) x1 (x2 + 1) σ
      else
        chk (inb ((3 * (σ.1 220 0 0 x2.toNatClampNeg)) + (σ.1 221 0 0 x2.toNatClampNeg)) 60) <|
        nm (sI σ 260 0 0 ((3 * (σ.1 220 0 0 x2.toNatClampNeg)) + (σ.1 221 0 0 x2.toNatClampNeg)).toNatClampNeg x2) fun (σ1 : St) =>
        (fM_tellBooks_45 N n) x1 (x2 + 1) σ1
def fM_tellBooks_23 (N : Nat) : Nat → Int32 → Int32 → St → Option St
  | 0, _, _, _ => none
  | n+1, x1, x2, σ =>
    if 3120 ≤ x2 then
      fM_tellBooks_45 N N x1 0 σ
    else
      chk (inb x2 3120) <|
      nm (sI σ 261 0 0 x2.toNatClampNeg (-1)) fun (σ1 : St) =>
      (fM_tellBooks_23 N n) x1 (x2 + 1) σ1
def fM_tellBooks_2 (N : Nat) : Nat → Int32 → Int32 → St → Option St
  | 0, _, _, _ => none
  | n+1, x1, x2, σ =>
    if 60 ≤ x2 then
      fM_tellBooks_23 N N x1 0 σ
    else
      chk (inb x2 60) <|
      nm (sI σ 260 0 0 x2.toNatClampNeg (-1)) fun (σ1 : St) =>
      (fM_tellBooks_2 N n) x1 (x2 + 1) σ1
def fM_tellBooks (N : Nat) (x1 : Int32) (σ : St) : Option St :=
  fM_tellBooks_2 N N x1 0 σ
def fM_inRow_32 (N : Nat) (σ : St) : Option Int32 :=
  some (-1)
def fM_inRow (N : Nat) (x1 : Int32) (x2 : Int32) (σ : St) : Option Int32 :=
  chk (inb ((3 * x1) + (x2 / 52)) 60) <|
  nm ((σ.1 260 0 0 ((3 * x1) + (x2 / 52)).toNatClampNeg)) fun (y1 : Int32) =>
  if y1 = (-1) then
    fM_inRow_32 N σ
  else
    chk (inb y1 60) <|
    if (irem x2 52) < (σ.1 222 0 0 y1.toNatClampNeg) then
      chk (inb ((52 * y1) + (irem x2 52)) 3120) <|
      some (σ.1 224 0 0 ((52 * y1) + (irem x2 52)).toNatClampNeg)
    else
      fM_inRow_32 N σ
def fM_stamps_24 (N : Nat) (σ : St) : Option (Int32 × St) :=
  bnd (fM_fail N σ) fun r1 σ2 =>
  some (r1, σ2)
def fM_stamps_60 (N : Nat) (x1 : Int32) (x2 : Int32) (σ : St) : Option (Int32 × St) :=
  bn1 (fM_inRow N x1 x2 σ) fun r1 =>
  chk (inb ((156 * x1) + x2) 3120) <|
  nm ((σ.1 261 0 0 ((156 * x1) + x2).toNatClampNeg)) fun (y2 : Int32) =>
  if r1 = (-1) then
    some (y2, σ)
  else
    if y2 = (-1) then
      some (r1, σ)
    else
      if y2 = r1 then
        some (r1, σ)
      else
        some ((10 + r1), σ)
def fM_stamps_47 (N : Nat) (x1 : Int32) (x2 : Int32) (σ : St) : Option (Int32 × St) :=
  bn1 (fM_theDay N σ) fun r1 =>
  bn1 (fM_tellBooks N r1 σ) fun σ2 =>
  nm (sI σ2 273 0 0 0 0) fun (σ3 : St) =>
  fM_stamps_60 N x1 x2 σ3
def fM_stamps (N : Nat) (x1 : Int32) (x2 : Int32) (σ : St) : Option (Int32 × St) :=
  nm (sI σ 204 0 0 0 0) fun (σ1 : St) =>
  bn1 (fM_isPerson N x1 σ1) fun r2 =>
  if r2 = 0 then
    fM_stamps_24 N σ1
  else
    if x2 < 0 then
      fM_stamps_24 N σ1
    else
      if x2 < 156 then
        if (σ1.1 273 0 0 0) = 0 then
          fM_stamps_47 N x1 x2 σ1
        else
          bn1 (fM_theDay N σ1) fun r3 =>
          if (σ1.1 274 0 0 0) = r3 then
            fM_stamps_60 N x1 x2 σ1
          else
            fM_stamps_47 N x1 x2 σ1
      else
        fM_stamps_24 N σ1
def fM_isSpan (N : Nat) (x0 : Int32) (x1 : Int32) (σ : St) : Option Int32 :=
  if x0 < 0 then
    some 0
  else
    if 935 < x0 then
      some 0
    else
      if x1 < 0 then
        some 0
      else
        if 935 < x1 then
          some 0
        else
          some 1
def fM_byteAt (N : Nat) (x1 : Int32) (σ : St) : Option Int32 :=
  if (σ.1 249 0 0 0) ≤ x1 then
    some (-1)
  else
    chk (inb x1 600) <|
    some (σ.1 246 0 0 x1.toNatClampNeg)
def fM_isLetter (N : Nat) (x0 : Int32) (σ : St) : Option Int32 :=
  if x0 < 97 then
    some 0
  else
    if 122 < x0 then
      some 0
    else
      some 1
def fM_isDigit (N : Nat) (x0 : Int32) (σ : St) : Option Int32 :=
  if x0 < 48 then
    some 0
  else
    if 57 < x0 then
      some 0
    else
      some 1
def fM_step_26 (N : Nat) (go0 : St → Option St) (σ : St) : Option St :=
  nm (sI σ 248 0 0 0 ((σ.1 248 0 0 0) + 1)) fun (σ1 : St) =>
  go0 σ1
def fM_step_286 (N : Nat) (σ : St) : Option St :=
  nm (sI σ 254 0 0 0 (σ.1 248 0 0 0)) fun (σ1 : St) =>
  some σ1
def fM_step_81 (N : Nat) : Nat → St → Option St
  | 0, _ => none
  | n+1, σ =>
    bn1 (fM_byteAt N (σ.1 248 0 0 0) σ) fun r1 =>
    bn1 (fM_isLetter N r1 σ) fun r2 =>
    if r2 = 0 then
      nm (sI σ 250 0 0 0 1) fun (σ3 : St) =>
      fM_step_286 N σ3
    else
      nm (sI σ 248 0 0 0 ((σ.1 248 0 0 0) + 1)) fun (σ4 : St) =>
      (fM_step_81 N n) σ4
def fM_step_128 (N : Nat) : Nat → St → Option St
  | 0, _ => none
  | n+1, σ =>
    bn1 (fM_byteAt N (σ.1 248 0 0 0) σ) fun r1 =>
    bn1 (fM_isDigit N r1 σ) fun r2 =>
    if r2 = 0 then
      nm (sI σ 250 0 0 0 2) fun (σ3 : St) =>
      fM_step_286 N σ3
    else
      bn1 (fM_byteAt N (σ.1 248 0 0 0) σ) fun r4 =>
      bn1 (fMath_min_I N 1000000 (((10 * (σ.1 252 0 0 0)) + r4) - 48) σ) fun r5 =>
      nm (sI σ 252 0 0 0 r5) fun (σ6 : St) =>
      nm (sI σ6 248 0 0 0 ((σ6.1 248 0 0 0) + 1)) fun (σ7 : St) =>
      (fM_step_128 N n) σ7
def fM_step_278 (N : Nat) (x1 : Int32) (s1 : Int32) (σ : St) : Option St :=
  nm (sI σ 250 0 0 0 s1) fun (σ1 : St) =>
  nm (sI σ1 251 0 0 0 x1) fun (σ2 : St) =>
  fM_step_286 N σ2
def fM_step_267 (N : Nat) (x1 : Int32) (s0 : Int32) (σ : St) : Option St :=
  if s0 = 0 then
    fM_step_278 N x1 4 σ
  else
    fM_step_278 N x1 3 σ
def fM_step_262 (N : Nat) (x1 : Int32) (σ : St) : Option St :=
  fM_step_267 N x1 1 σ
def fM_step_0 (N : Nat) : Nat → St → Option St
  | 0, _ => none
  | n+1, σ =>
    bn1 (fM_byteAt N (σ.1 248 0 0 0) σ) fun r1 =>
    if r1 = 32 then
      fM_step_26 N (fM_step_0 N n) σ
    else
      bn1 (fM_byteAt N (σ.1 248 0 0 0) σ) fun r2 =>
      if r2 = 10 then
        fM_step_26 N (fM_step_0 N n) σ
      else
        nm (sI σ 253 0 0 0 (σ.1 248 0 0 0)) fun (σ3 : St) =>
        nm (sI σ3 251 0 0 0 0) fun (σ4 : St) =>
        bn1 (fM_byteAt N (σ4.1 248 0 0 0) σ4) fun r5 =>
        if r5 = (-1) then
          nm (sI σ4 250 0 0 0 0) fun (σ10 : St) =>
          fM_step_286 N σ10
        else
          bn1 (fM_isLetter N r5 σ4) fun r6 =>
          if r6 = 0 then
            bn1 (fM_isDigit N r5 σ4) fun r7 =>
            if r7 = 0 then
              nm (sI σ4 248 0 0 0 ((σ4.1 248 0 0 0) + 1)) fun (σ8 : St) =>
              if r5 = 59 then
                fM_step_262 N r5 σ8
              else
                if r5 = 44 then
                  fM_step_262 N r5 σ8
                else
                  if r5 = 40 then
                    fM_step_262 N r5 σ8
                  else
                    if r5 = 41 then
                      fM_step_262 N r5 σ8
                    else
                      if r5 = 43 then
                        fM_step_262 N r5 σ8
                      else
                        if r5 = 45 then
                          fM_step_262 N r5 σ8
                        else
                          if r5 = 42 then
                            fM_step_262 N r5 σ8
                          else
                            if r5 = 47 then
                              fM_step_262 N r5 σ8
                            else
                              if r5 = 60 then
                                fM_step_262 N r5 σ8
                              else
                                if r5 = 61 then
                                  fM_step_262 N r5 σ8
                                else
                                  fM_step_267 N r5 0 σ8
            else
              nm (sI σ4 252 0 0 0 0) fun (σ9 : St) =>
              fM_step_128 N N σ9
          else
            fM_step_81 N N σ4
def fM_step (N : Nat) (σ : St) : Option St :=
  fM_step_0 N N σ
def fM_is_75 (N : Nat) (ks1 : Nat) (go39 : Int32 → Int32 → St → Option Int32) (x3 : Int32) (s0 : Int32) (σ : St) : Option Int32 :=
  go39 s0 (x3 + 1) σ
def fM_is_39 (N : Nat) (ks1 : Nat) : Nat → Int32 → Int32 → St → Option Int32
  | 0, _, _, _ => none
  | n+1, x2, x3, σ =>
    if x2 = 0 then
      some (x2 &&& 1)
    else
      if (slen ks1) ≤ x3 then
        some (x2 &&& 1)
      else
        chk (inb x3 (slenN ks1)) <|
        chk (inb ((σ.1 253 0 0 0) + x3) 600) <|
        if (schr ks1 x3.toNatClampNeg) = (σ.1 246 0 0 ((σ.1 253 0 0 0) + x3).toNatClampNeg) then
          fM_is_75 N ks1 (fM_is_39 N ks1 n) x3 1 σ
        else
          fM_is_75 N ks1 (fM_is_39 N ks1 n) x3 0 σ
def fM_is_36 (N : Nat) (ks1 : Nat) (s0 : Int32) (σ : St) : Option Int32 :=
  fM_is_39 N ks1 N s0 0 σ
def fM_is_35 (N : Nat) (ks1 : Nat) (σ : St) : Option Int32 :=
  fM_is_36 N ks1 0 σ
def fM_is (N : Nat) (ks1 : Nat) (σ : St) : Option Int32 :=
  if (σ.1 255 0 0 0) = 0 then
    if (σ.1 250 0 0 0) = 1 then
      if (slen ks1) = ((σ.1 254 0 0 0) - (σ.1 253 0 0 0)) then
        fM_is_36 N ks1 1 σ
      else
        fM_is_35 N ks1 σ
    else
      fM_is_35 N ks1 σ
  else
    fM_is_35 N ks1 σ
def fM_clauseNow_57 (N : Nat) (s0 : Int32) (σ : St) : Option Int32 :=
  if s0 = (-1) then
    bn1 (fM_is N 27 σ) fun r1 =>
    if r1 = 0 then
      bn1 (fM_is N 28 σ) fun r2 =>
      if r2 = 0 then
        bn1 (fM_is N 29 σ) fun r3 =>
        if r3 = 0 then
          some (-1)
        else
          some 6
      else
        some 5
    else
      some 4
  else
    some s0
def fM_clauseNow (N : Nat) (σ : St) : Option Int32 :=
  bn1 (fM_is N 23 σ) fun r1 =>
  if r1 = 0 then
    bn1 (fM_is N 24 σ) fun r2 =>
    if r2 = 0 then
      bn1 (fM_is N 25 σ) fun r3 =>
      if r3 = 0 then
        bn1 (fM_is N 26 σ) fun r4 =>
        if r4 = 0 then
          fM_clauseNow_57 N (-1) σ
        else
          fM_clauseNow_57 N 3 σ
      else
        fM_clauseNow_57 N 2 σ
    else
      fM_clauseNow_57 N 1 σ
  else
    fM_clauseNow_57 N 0 σ
def fM_wrong (N : Nat) (x1 : Int32) (σ : St) : Option St :=
  if (σ.1 255 0 0 0) = 0 then
    nm (sI σ 255 0 0 0 x1) fun (σ1 : St) =>
    nm (sI σ1 256 0 0 0 (σ1.1 253 0 0 0)) fun (σ2 : St) =>
    some σ2
  else
    some σ
def fM_readNumber_43 (N : Nat) (σ : St) : Option (Int32 × St) :=
  nm ((σ.1 252 0 0 0)) fun (y1 : Int32) =>
  if (σ.1 255 0 0 0) = 0 then
    bn1 (fM_step N σ) fun σ2 =>
    some (y1, σ2)
  else
    some (y1, σ)
def fM_readNumber (N : Nat) (σ : St) : Option (Int32 × St) :=
  if (σ.1 255 0 0 0) = 0 then
    if (σ.1 250 0 0 0) = 2 then
      if ((σ.1 254 0 0 0) - (σ.1 253 0 0 0)) ≤ 5 then
        fM_readNumber_43 N σ
      else
        bn1 (fM_wrong N 2 σ) fun σ1 =>
        fM_readNumber_43 N σ1
    else
      bn1 (fM_wrong N 1 σ) fun σ2 =>
      fM_readNumber_43 N σ2
  else
    some (0, σ)
def fM_isSign (N : Nat) (x1 : Int32) (σ : St) : Option Int32 :=
  if (σ.1 255 0 0 0) = 0 then
    if (σ.1 250 0 0 0) = 3 then
      if (σ.1 251 0 0 0) = x1 then
        some 1
      else
        some 0
    else
      some 0
  else
    some 0
def fM_readTrades_133 (N : Nat) (go4 : Int32 → Int32 → Int32 → St → Option St) (x1 : Int32) (x2 : Int32) (x3 : Int32) (σ : St) : Option St :=
  go4 x1 x2 x3 σ
def fM_readTrades_97 (N : Nat) (go4 : Int32 → Int32 → Int32 → St → Option St) (x1 : Int32) (x2 : Int32) (σ : St) : Option St :=
  bnd (fM_readNumber N σ) fun r1 σ2 =>
  if (σ2.1 255 0 0 0) = 0 then
    nm ((x2 ||| (1 <<< (r1 &&& 31)))) fun (y3 : Int32) =>
    bn1 (fM_isSign N 44 σ2) fun r4 =>
    if r4 = 0 then
      fM_readTrades_133 N go4 x1 y3 r4 σ2
    else
      bn1 (fM_step N σ2) fun σ5 =>
      fM_readTrades_133 N go4 x1 y3 r4 σ5
  else
    some σ2
def fM_readTrades_51 (N : Nat) (go4 : Int32 → Int32 → Int32 → St → Option St) (x1 : Int32) (x2 : Int32) (σ : St) : Option St :=
  if (σ.1 255 0 0 0) = 0 then
    if (σ.1 250 0 0 0) = 2 then
      if 6 ≤ ((σ.1 254 0 0 0) - (σ.1 253 0 0 0)) then
        fM_readTrades_97 N go4 x1 x2 σ
      else
        if ((x2 >>> ((σ.1 252 0 0 0) &&& 31)) &&& 1) = 1 then
          bn1 (fM_wrong N 4 σ) fun σ1 =>
          fM_readTrades_97 N go4 x1 x2 σ1
        else
          fM_readTrades_97 N go4 x1 x2 σ
    else
      fM_readTrades_97 N go4 x1 x2 σ
  else
    fM_readTrades_97 N go4 x1 x2 σ
def fM_readTrades_136 (N : Nat) (x1 : Int32) (x2 : Int32) (σ : St) : Option St :=
  chk (inb x1 408) <|
  nm (sI σ 240 0 0 x1.toNatClampNeg x2) fun (σ1 : St) =>
  some σ1
def fM_readTrades_4 (N : Nat) : Nat → Int32 → Int32 → Int32 → St → Option St
  | 0, _, _, _, _ => none
  | n+1, x1, x2, x3, σ =>
    if (σ.1 255 0 0 0) = 0 then
      if x3 = 0 then
        fM_readTrades_136 N x1 x2 σ
      else
        if (σ.1 250 0 0 0) = 2 then
          if 6 ≤ ((σ.1 254 0 0 0) - (σ.1 253 0 0 0)) then
            fM_readTrades_51 N (fM_readTrades_4 N n) x1 x2 σ
          else
            if (σ.1 252 0 0 0) ≤ 7 then
              fM_readTrades_51 N (fM_readTrades_4 N n) x1 x2 σ
            else
              bn1 (fM_wrong N 2 σ) fun σ1 =>
              fM_readTrades_51 N (fM_readTrades_4 N n) x1 x2 σ1
        else
          fM_readTrades_51 N (fM_readTrades_4 N n) x1 x2 σ
    else
      fM_readTrades_136 N x1 x2 σ
def fM_readTrades (N : Nat) (x1 : Int32) (σ : St) : Option St :=
  fM_readTrades_4 N N x1 0 1 σ
def fM_paramNow_2 (N : Nat) : Nat → Int32 → St → Option Int32
  | 0, _, _ => none
  | n+1, x1, σ =>
    if 8 ≤ x1 then
      some (-1)
    else
      chk (inb x1 8) <|
      bn1 (fM_is N (0 + x1.toNatClampNeg) σ) fun r1 =>
      if r1 = 0 then
        (fM_paramNow_2 N n) (x1 + 1) σ
      else
        some x1
def fM_paramNow (N : Nat) (σ : St) : Option Int32 :=
  fM_paramNow_2 N N 0 σ
def fM_emit (N : Nat) (x1 : Int32) (σ : St) : Option St :=
  if (σ.1 255 0 0 0) = 0 then
    chk (inb ((1000 * (σ.1 259 0 0 0)) + (σ.1 258 0 0 0)) 17000) <|
    nm (sI σ 245 0 0 ((1000 * (σ.1 259 0 0 0)) + (σ.1 258 0 0 0)).toNatClampNeg x1) fun (σ1 : St) =>
    nm (sI σ1 258 0 0 0 ((σ1.1 258 0 0 0) + 1)) fun (σ2 : St) =>
    some σ2
  else
    some σ
def fM_valueNow_7 (N : Nat) : Nat → Int32 → Int32 → St → Option Int32
  | 0, _, _, _ => none
  | n+1, x1, x2, σ =>
    if 12 ≤ x2 then
      some x1
    else
      chk (inb x2 12) <|
      bn1 (fM_is N (8 + x2.toNatClampNeg) σ) fun r1 =>
      if r1 = 0 then
        (fM_valueNow_7 N n) x1 (x2 + 1) σ
      else
        nm ((8 + x2)) fun (y2 : Int32) =>
        (fM_valueNow_7 N n) y2 (x2 + 1) σ
def fM_valueNow (N : Nat) (σ : St) : Option Int32 :=
  bn1 (fM_paramNow N σ) fun r1 =>
  fM_valueNow_7 N N r1 0 σ
def fM_need_20 (N : Nat) (σ : St) : Option St :=
  if (σ.1 255 0 0 0) = 0 then
    bn1 (fM_step N σ) fun σ1 =>
    some σ1
  else
    some σ
def fM_need (N : Nat) (x1 : Int32) (σ : St) : Option St :=
  if (σ.1 255 0 0 0) = 0 then
    bn1 (fM_isSign N x1 σ) fun r1 =>
    if r1 = 0 then
      bn1 (fM_wrong N 1 σ) fun σ2 =>
      fM_need_20 N σ2
    else
      fM_need_20 N σ
  else
    fM_need_20 N σ
def fM_readPart_76 (N : Nat) (rec : Int32 → St → Option St) (σ : St) : Option St :=
  some σ
def fM_readPart_57 (N : Nat) (rec : Int32 → St → Option St) (x2 : Int32) (σ : St) : Option St :=
  bn1 (fM_emit N (20 + x2) σ) fun σ1 =>
  if (σ1.1 255 0 0 0) = 0 then
    bn1 (fM_step N σ1) fun σ2 =>
    fM_readPart_76 N rec σ2
  else
    fM_readPart_76 N rec σ1
def fM_readPart (N : Nat) (rec : Int32 → St → Option St) (x1 : Int32) (σ : St) : Option St :=
  if (σ.1 255 0 0 0) = 0 then
    if (σ.1 250 0 0 0) = 2 then
      bnd (fM_readNumber N σ) fun r8 σ9 =>
      bn1 (fM_emit N 0 σ9) fun σ10 =>
      bn1 (fM_emit N r8 σ10) fun σ11 =>
      some σ11
    else
      if (σ.1 250 0 0 0) = 1 then
        bn1 (fM_valueNow N σ) fun r6 =>
        if r6 = (-1) then
          bn1 (fM_wrong N 3 σ) fun σ7 =>
          fM_readPart_57 N rec r6 σ7
        else
          fM_readPart_57 N rec r6 σ
      else
        bn1 (fM_isSign N 40 σ) fun r1 =>
        if r1 = 0 then
          bn1 (fM_wrong N 1 σ) fun σ2 =>
          some σ2
        else
          bn1 (fM_step N σ) fun σ3 =>
          bn1 (rec (x1 + 1) σ3) fun σ4 =>
          bn1 (fM_need N 41 σ4) fun σ5 =>
          some σ5
  else
    some σ
def fM_readProduct_37 (N : Nat) (rec : Int32 → St → Option St) (go5 : Int32 → St → Option St) (x1 : Int32) (s0 : Int32) (σ : St) : Option St :=
  bn1 (fM_step N σ) fun σ1 =>
  bn1 (fM_readPart N rec x1 σ1) fun σ2 =>
  bn1 (fM_emit N s0 σ2) fun σ3 =>
  go5 x1 σ3
def fM_readProduct_23 (N : Nat) (rec : Int32 → St → Option St) (go5 : Int32 → St → Option St) (x1 : Int32) (σ : St) : Option St :=
  bn1 (fM_isSign N 42 σ) fun r1 =>
  if r1 = 0 then
    fM_readProduct_37 N rec go5 x1 4 σ
  else
    fM_readProduct_37 N rec go5 x1 3 σ
def fM_readProduct_5 (N : Nat) (rec : Int32 → St → Option St) : Nat → Int32 → St → Option St
  | 0, _, _ => none
  | n+1, x1, σ =>
    bn1 (fM_isSign N 42 σ) fun r1 =>
    if r1 = 0 then
      bn1 (fM_isSign N 47 σ) fun r2 =>
      if r2 = 0 then
        some σ
      else
        fM_readProduct_23 N rec (fM_readProduct_5 N rec n) x1 σ
    else
      fM_readProduct_23 N rec (fM_readProduct_5 N rec n) x1 σ
def fM_readProduct (N : Nat) (rec : Int32 → St → Option St) (x1 : Int32) (σ : St) : Option St :=
  bn1 (fM_readPart N rec x1 σ) fun σ1 =>
  fM_readProduct_5 N rec N x1 σ1
def fM_readSum_37 (N : Nat) (rec : Int32 → St → Option St) (go5 : Int32 → St → Option St) (x1 : Int32) (s0 : Int32) (σ : St) : Option St :=
  bn1 (fM_step N σ) fun σ1 =>
  bn1 (fM_readProduct N rec x1 σ1) fun σ2 =>
  bn1 (fM_emit N s0 σ2) fun σ3 =>
  go5 x1 σ3
def fM_readSum_23 (N : Nat) (rec : Int32 → St → Option St) (go5 : Int32 → St → Option St) (x1 : Int32) (σ : St) : Option St :=
  bn1 (fM_isSign N 43 σ) fun r1 =>
  if r1 = 0 then
    fM_readSum_37 N rec go5 x1 2 σ
  else
    fM_readSum_37 N rec go5 x1 1 σ
def fM_readSum_5 (N : Nat) (rec : Int32 → St → Option St) : Nat → Int32 → St → Option St
  | 0, _, _ => none
  | n+1, x1, σ =>
    bn1 (fM_isSign N 43 σ) fun r1 =>
    if r1 = 0 then
      bn1 (fM_isSign N 45 σ) fun r2 =>
      if r2 = 0 then
        some σ
      else
        fM_readSum_23 N rec (fM_readSum_5 N rec n) x1 σ
    else
      fM_readSum_23 N rec (fM_readSum_5 N rec n) x1 σ
def fM_readSum (N : Nat) (rec : Int32 → St → Option St) (x1 : Int32) (σ : St) : Option St :=
  bn1 (fM_readProduct N rec x1 σ) fun σ1 =>
  fM_readSum_5 N rec N x1 σ1
def fM_readNot_89 (N : Nat) (rec : Int32 → St → Option St) : Nat → Int32 → Int32 → St → Option St
  | 0, _, _, _ => none
  | n+1, x2, x3, σ =>
    if x2 ≤ x3 then
      some σ
    else
      bn1 (fM_emit N 9 σ) fun σ1 =>
      (fM_readNot_89 N rec n) x2 (x3 + 1) σ1
def fM_readNot_87 (N : Nat) (rec : Int32 → St → Option St) (x2 : Int32) (σ : St) : Option St :=
  fM_readNot_89 N rec N x2 0 σ
def fM_readNot_72 (N : Nat) (rec : Int32 → St → Option St) (x1 : Int32) (x2 : Int32) (s0 : Int32) (σ : St) : Option St :=
  bn1 (fM_step N σ) fun σ1 =>
  bn1 (fM_readSum N rec x1 σ1) fun σ2 =>
  bn1 (fM_emit N s0 σ2) fun σ3 =>
  fM_readNot_87 N rec x2 σ3
def fM_readNot_57 (N : Nat) (rec : Int32 → St → Option St) (x1 : Int32) (x2 : Int32) (σ : St) : Option St :=
  bn1 (fM_isSign N 60 σ) fun r1 =>
  if r1 = 0 then
    fM_readNot_72 N rec x1 x2 6 σ
  else
    fM_readNot_72 N rec x1 x2 5 σ
def fM_readNot_2 (N : Nat) (rec : Int32 → St → Option St) : Nat → Int32 → Int32 → St → Option St
  | 0, _, _, _ => none
  | n+1, x1, x2, σ =>
    bn1 (fM_is N 30 σ) fun r1 =>
    if r1 = 0 then
      bn1 (fM_readSum N rec x1 σ) fun σ2 =>
      bn1 (fM_isSign N 60 σ2) fun r3 =>
      if r3 = 0 then
        bn1 (fM_isSign N 61 σ2) fun r4 =>
        if r4 = 0 then
          fM_readNot_87 N rec x2 σ2
        else
          fM_readNot_57 N rec x1 x2 σ2
      else
        fM_readNot_57 N rec x1 x2 σ2
    else
      if x2 = 6 then
        bn1 (fM_wrong N 2 σ) fun σ6 =>
        some σ6
      else
        bn1 (fM_step N σ) fun σ5 =>
        (fM_readNot_2 N rec n) x1 (x2 + 1) σ5
def fM_readNot (N : Nat) (rec : Int32 → St → Option St) (x1 : Int32) (σ : St) : Option St :=
  fM_readNot_2 N rec N x1 0 σ
def fM_readAnd_5 (N : Nat) (rec : Int32 → St → Option St) : Nat → Int32 → St → Option St
  | 0, _, _ => none
  | n+1, x1, σ =>
    bn1 (fM_is N 31 σ) fun r1 =>
    if r1 = 0 then
      some σ
    else
      bn1 (fM_step N σ) fun σ2 =>
      bn1 (fM_readNot N rec x1 σ2) fun σ3 =>
      bn1 (fM_emit N 7 σ3) fun σ4 =>
      (fM_readAnd_5 N rec n) x1 σ4
def fM_readAnd (N : Nat) (rec : Int32 → St → Option St) (x1 : Int32) (σ : St) : Option St :=
  bn1 (fM_readNot N rec x1 σ) fun σ1 =>
  fM_readAnd_5 N rec N x1 σ1
def fM_readExpression_67 (N : Nat) (rec : Int32 → St → Option St) : Nat → Int32 → St → Option St
  | 0, _, _ => none
  | n+1, x1, σ =>
    bn1 (fM_is N 32 σ) fun r1 =>
    if r1 = 0 then
      some σ
    else
      bn1 (fM_step N σ) fun σ2 =>
      bn1 (fM_readAnd N rec x1 σ2) fun σ3 =>
      bn1 (fM_emit N 8 σ3) fun σ4 =>
      (fM_readExpression_67 N rec n) x1 σ4
def fM_readExpression_62 (N : Nat) (rec : Int32 → St → Option St) (x1 : Int32) (σ : St) : Option St :=
  bn1 (fM_readAnd N rec x1 σ) fun σ1 =>
  fM_readExpression_67 N rec N x1 σ1
def fM_readExpression_38 (N : Nat) (rec : Int32 → St → Option St) (x1 : Int32) (s0 : Int32) (σ : St) : Option St :=
  if s0 = 0 then
    bn1 (fM_wrong N 1 σ) fun σ2 =>
    fM_readExpression_62 N rec x1 σ2
  else
    if x1 = 6 then
      bn1 (fM_wrong N 2 σ) fun σ1 =>
      fM_readExpression_62 N rec x1 σ1
    else
      fM_readExpression_62 N rec x1 σ
def fM_readExpression_33 (N : Nat) (rec : Int32 → St → Option St) (x1 : Int32) (σ : St) : Option St :=
  fM_readExpression_38 N rec x1 1 σ
def fM_readExpression_b (N : Nat) (rec : Int32 → St → Option St) (x1 : Int32) (σ : St) : Option St :=
  if (σ.1 255 0 0 0) = 0 then
    if (σ.1 250 0 0 0) = 2 then
      fM_readExpression_33 N rec x1 σ
    else
      if (σ.1 250 0 0 0) = 1 then
        fM_readExpression_33 N rec x1 σ
      else
        bn1 (fM_isSign N 40 σ) fun r1 =>
        if r1 = 0 then
          fM_readExpression_38 N rec x1 0 σ
        else
          fM_readExpression_33 N rec x1 σ
  else
    some σ
def fM_readExpression (N : Nat) : Nat → Int32 → St → Option St
  | 0, _, _ => none
  | d+1, x1, σ => fM_readExpression_b N (fM_readExpression N d) x1 σ
def fM_readClause_278 (N : Nat) (x2 : Int32) (σ : St) : Option St :=
  chk (inb x2 408) <|
  nm (sI σ 244 0 0 x2.toNatClampNeg (σ.1 258 0 0 0)) fun (σ1 : St) =>
  bn1 (fM_need N 59 σ1) fun σ2 =>
  some σ2
def fM_readClause_179 (N : Nat) (x2 : Int32) (σ : St) : Option St :=
  bnd (fM_readNumber N σ) fun r1 σ2 =>
  chk (inb x2 408) <|
  nm (sI σ2 241 0 0 x2.toNatClampNeg r1) fun (σ3 : St) =>
  fM_readClause_278 N x2 σ3
def fM_readClause_168 (N : Nat) (x2 : Int32) (σ : St) : Option St :=
  if (σ.1 255 0 0 0) = 0 then
    bn1 (fM_step N σ) fun σ1 =>
    fM_readClause_179 N x2 σ1
  else
    fM_readClause_179 N x2 σ
def fM_readClause_165 (N : Nat) (x2 : Int32) (s1 : Int32) (σ : St) : Option St :=
  bn1 (fM_wrong N s1 σ) fun σ1 =>
  fM_readClause_168 N x2 σ1
def fM_readClause_246 (N : Nat) (x2 : Int32) (σ : St) : Option St :=
  bnd (fM_readNumber N σ) fun r1 σ2 =>
  chk (inb x2 408) <|
  nm (sI σ2 241 0 0 x2.toNatClampNeg r1) fun (σ3 : St) =>
  fM_readClause_278 N x2 σ3
def fM_readClause_235 (N : Nat) (x2 : Int32) (σ : St) : Option St :=
  if (σ.1 255 0 0 0) = 0 then
    bn1 (fM_step N σ) fun σ1 =>
    fM_readClause_246 N x2 σ1
  else
    fM_readClause_246 N x2 σ
def fM_readClause_37 (N : Nat) (x1 : Int32) (σ : St) : Option St :=
  if (σ.1 255 0 0 0) = 0 then
    chk (inb (σ.1 259 0 0 0) 17) <|
    nm (((24 * (σ.1 259 0 0 0)) + (σ.1 238 0 0 (σ.1 259 0 0 0).toNatClampNeg))) fun (y1 : Int32) =>
    nm (sI σ 238 0 0 (σ.1 259 0 0 0).toNatClampNeg ((σ.1 238 0 0 (σ.1 259 0 0 0).toNatClampNeg) + 1)) fun (σ2 : St) =>
    chk (inb y1 408) <|
    nm (sI σ2 239 0 0 y1.toNatClampNeg x1) fun (σ3 : St) =>
    bn1 (fM_step N σ3) fun σ4 =>
    nm (sI σ4 242 0 0 y1.toNatClampNeg (σ4.1 258 0 0 0)) fun (σ5 : St) =>
    nm (sI σ5 243 0 0 y1.toNatClampNeg (σ5.1 258 0 0 0)) fun (σ6 : St) =>
    if x1 = 0 then
      bn1 (fM_readTrades N y1 σ6) fun σ16 =>
      fM_readClause_278 N y1 σ16
    else
      if x1 = 1 then
        bn1 (fM_paramNow N σ6) fun r14 =>
        nm (sI σ6 240 0 0 y1.toNatClampNeg r14) fun (σ15 : St) =>
        if (σ15.1 255 0 0 0) = 0 then
          if (σ15.1 240 0 0 y1.toNatClampNeg) = (-1) then
            if (σ15.1 250 0 0 0) = 1 then
              fM_readClause_165 N y1 3 σ15
            else
              fM_readClause_165 N y1 1 σ15
          else
            fM_readClause_168 N y1 σ15
        else
          fM_readClause_168 N y1 σ15
      else
        bn1 (fM_readExpression N 8 0 σ6) fun σ7 =>
        nm (sI σ7 243 0 0 y1.toNatClampNeg (σ7.1 258 0 0 0)) fun (σ8 : St) =>
        if x1 = 6 then
          if (σ8.1 255 0 0 0) = 0 then
            bn1 (fM_is N 27 σ8) fun r12 =>
            if r12 = 0 then
              bn1 (fM_wrong N 1 σ8) fun σ13 =>
              fM_readClause_235 N y1 σ13
            else
              fM_readClause_235 N y1 σ8
          else
            fM_readClause_235 N y1 σ8
        else
          bn1 (fM_is N 33 σ8) fun r9 =>
          if r9 = 0 then
            fM_readClause_278 N y1 σ8
          else
            bn1 (fM_step N σ8) fun σ10 =>
            bn1 (fM_readExpression N 8 0 σ10) fun σ11 =>
            fM_readClause_278 N y1 σ11
  else
    some σ
def fM_readClause (N : Nat) (σ : St) : Option St :=
  bn1 (fM_clauseNow N σ) fun r1 =>
  if r1 = (-1) then
    bn1 (fM_wrong N 1 σ) fun σ3 =>
    fM_readClause_37 N r1 σ3
  else
    chk (inb (σ.1 259 0 0 0) 17) <|
    if (σ.1 238 0 0 (σ.1 259 0 0 0).toNatClampNeg) = 24 then
      bn1 (fM_wrong N 2 σ) fun σ2 =>
      fM_readClause_37 N r1 σ2
    else
      fM_readClause_37 N r1 σ
def fM_readText_78 (N : Nat) (s1 : Int32) (σ : St) : Option (Int32 × St) :=
  nm (sI σ 257 0 0 0 s1) fun (σ1 : St) =>
  some ((σ1.1 255 0 0 0), σ1)
def fM_readText_62 (N : Nat) (σ : St) : Option (Int32 × St) :=
  if (σ.1 255 0 0 0) = 0 then
    fM_readText_78 N (-1) σ
  else
    fM_readText_78 N (σ.1 256 0 0 0) σ
def fM_readText_41 (N : Nat) : Nat → St → Option (Int32 × St)
  | 0, _ => none
  | n+1, σ =>
    if (σ.1 255 0 0 0) = 0 then
      if (σ.1 250 0 0 0) = 0 then
        fM_readText_62 N σ
      else
        bn1 (fM_readClause N σ) fun σ1 =>
        (fM_readText_41 N n) σ1
    else
      fM_readText_62 N σ
def fM_readText (N : Nat) (x1 : Int32) (x2 : Int32) (σ : St) : Option (Int32 × St) :=
  nm (sI σ 247 0 0 0 0) fun (σ1 : St) =>
  nm (sI σ1 259 0 0 0 x1) fun (σ2 : St) =>
  chk (inb x1 17) <|
  nm (sI σ2 238 0 0 x1.toNatClampNeg 0) fun (σ3 : St) =>
  nm (sI σ3 258 0 0 0 0) fun (σ4 : St) =>
  nm (sI σ4 249 0 0 0 x2) fun (σ5 : St) =>
  nm (sI σ5 248 0 0 0 0) fun (σ6 : St) =>
  nm (sI σ6 255 0 0 0 0) fun (σ7 : St) =>
  bn1 (fM_step N σ7) fun σ8 =>
  fM_readText_41 N N σ8
def fM_text_17 (N : Nat) (σ : St) : Option (Int32 × St) :=
  bnd (fM_fail N σ) fun r1 σ2 =>
  some (r1, σ2)
def fM_text_44 (N : Nat) (σ : St) : Option (Int32 × St) :=
  nm (sI σ 247 0 0 0 0) fun (σ1 : St) =>
  some ((-9), σ1)
def fM_text (N : Nat) (x1 : Int32) (x2 : Int32) (x3 : Int32) (σ : St) : Option (Int32 × St) :=
  nm (sI σ 204 0 0 0 0) fun (σ1 : St) =>
  if x1 < 0 then
    fM_text_17 N σ1
  else
    if x1 ≤ (σ1.1 247 0 0 0) then
      nm (sI σ1 257 0 0 0 (-1)) fun (σ2 : St) =>
      if (σ2.1 219 0 0 0) = 16 then
        fM_text_44 N σ2
      else
        bn1 (fM_isSpan N x2 x3 σ2) fun r3 =>
        if r3 = 0 then
          fM_text_44 N σ2
        else
          bnd (fM_readText N (σ2.1 219 0 0 0) x1 σ2) fun r4 σ5 =>
          if r4 = 0 then
            chk (inb (σ5.1 219 0 0 0) 17) <|
            nm (sI σ5 235 0 0 (σ5.1 219 0 0 0).toNatClampNeg x2) fun (σ6 : St) =>
            chk (inb (σ6.1 219 0 0 0) 17) <|
            nm (sI σ6 236 0 0 (σ6.1 219 0 0 0).toNatClampNeg x3) fun (σ7 : St) =>
            chk (inb (σ7.1 219 0 0 0) 17) <|
            nm (sI σ7 237 0 0 (σ7.1 219 0 0 0).toNatClampNeg (σ7.1 205 0 0 0)) fun (σ8 : St) =>
            nm (sI σ8 219 0 0 0 ((σ8.1 219 0 0 0) + 1)) fun (σ9 : St) =>
            nm (sI σ9 273 0 0 0 0) fun (σ10 : St) =>
            some (((σ10.1 219 0 0 0) - 1), σ10)
          else
            some (((-1) - (σ5.1 255 0 0 0)), σ5)
    else
      fM_text_17 N σ1
def fM_fault (N : Nat) (σ : St) : Option (Int32 × St) :=
  nm (sI σ 204 0 0 0 0) fun (σ1 : St) =>
  some ((σ1.1 257 0 0 0), σ1)
def fM_isNumber (N : Nat) (x0 : Int32) (x1 : Int32) (σ : St) : Option Int32 :=
  if x0 = 0 then
    if x1 < 0 then
      some 0
    else
      if 3 < x1 then
        some 0
      else
        some 1
  else
  if x0 = 1 then
    if x1 < 1 then
      some 0
    else
      if 999 < x1 then
        some 0
      else
        some 1
  else
  if x0 = 2 then
    if x1 = 0 then
      some 1
    else
      some 0
  else
  if x0 = 3 then
    if x1 = 0 then
      some 1
    else
      some 0
  else
  if x0 = 4 then
    if x1 = 0 then
      some 1
    else
      some 0
  else
  if x0 = 5 then
    if x1 < 0 then
      some 0
    else
      if 9999 < x1 then
        some 0
      else
        some 1
  else
  if x0 = 6 then
    if x1 < 1 then
      some 0
    else
      if 6 < x1 then
        some 0
      else
        some 1
  else
  if x1 = 0 then
    some 1
  else
    some 0
def fM_note (N : Nat) (x1 : Int32) (x2 : Int32) (x3 : Int32) (x4 : Int32) (σ : St) : Option (Int32 × St) :=
  chk (inb (σ.1 218 0 0 0) 160) <|
  nm (sI σ 229 0 0 (σ.1 218 0 0 0).toNatClampNeg x1) fun (σ1 : St) =>
  chk (inb (σ1.1 218 0 0 0) 160) <|
  nm (sI σ1 230 0 0 (σ1.1 218 0 0 0).toNatClampNeg x2) fun (σ2 : St) =>
  chk (inb (σ2.1 218 0 0 0) 160) <|
  nm (sI σ2 231 0 0 (σ2.1 218 0 0 0).toNatClampNeg x3) fun (σ3 : St) =>
  chk (inb (σ3.1 218 0 0 0) 160) <|
  nm (sI σ3 232 0 0 (σ3.1 218 0 0 0).toNatClampNeg x4) fun (σ4 : St) =>
  chk (inb (σ4.1 218 0 0 0) 160) <|
  nm (sI σ4 233 0 0 (σ4.1 218 0 0 0).toNatClampNeg (σ4.1 205 0 0 0)) fun (σ5 : St) =>
  chk (inb (σ5.1 218 0 0 0) 160) <|
  nm (sI σ5 234 0 0 (σ5.1 218 0 0 0).toNatClampNeg (-1)) fun (σ6 : St) =>
  nm (sI σ6 218 0 0 0 ((σ6.1 218 0 0 0) + 1)) fun (σ7 : St) =>
  nm (sI σ7 273 0 0 0 0) fun (σ8 : St) =>
  some (((σ8.1 218 0 0 0) - 1), σ8)
def fM_event_23 (N : Nat) (σ : St) : Option (Int32 × St) :=
  bnd (fM_fail N σ) fun r1 σ2 =>
  some (r1, σ2)
def fM_event_63 (N : Nat) (σ : St) : Option (Int32 × St) :=
  some ((-1), σ)
def fM_event (N : Nat) (x1 : Int32) (x2 : Int32) (x3 : Int32) (x4 : Int32) (σ : St) : Option (Int32 × St) :=
  nm (sI σ 204 0 0 0 0) fun (σ1 : St) =>
  if x1 < 0 then
    fM_event_23 N σ1
  else
    if 6 < x1 then
      fM_event_23 N σ1
    else
      bn1 (fM_isPerson N x2 σ1) fun r2 =>
      if r2 = 0 then
        fM_event_23 N σ1
      else
        if (σ1.1 218 0 0 0) = 160 then
          fM_event_63 N σ1
        else
          bn1 (fM_isNumber N x1 x3 σ1) fun r3 =>
          if r3 = 0 then
            fM_event_63 N σ1
          else
            if x4 < 312 then
              fM_event_63 N σ1
            else
              if x4 ≤ (σ1.1 205 0 0 0) then
                bnd (fM_note N x1 x2 x3 x4 σ1) fun r4 σ5 =>
                some (r4, σ5)
              else
                fM_event_63 N σ1
def fM_back_17 (N : Nat) (σ : St) : Option (Int32 × St) :=
  bnd (fM_fail N σ) fun r1 σ2 =>
  some (0, σ2)
def fM_back (N : Nat) (x1 : Int32) (σ : St) : Option (Int32 × St) :=
  nm (sI σ 204 0 0 0 0) fun (σ1 : St) =>
  if x1 < 0 then
    fM_back_17 N σ1
  else
    if x1 < (σ1.1 218 0 0 0) then
      chk (inb x1 160) <|
      if (σ1.1 234 0 0 x1.toNatClampNeg) = (-1) then
        nm (sI σ1 234 0 0 x1.toNatClampNeg (σ1.1 205 0 0 0)) fun (σ2 : St) =>
        nm (sI σ2 273 0 0 0 0) fun (σ3 : St) =>
        some (1, σ3)
      else
        some (0, σ1)
    else
      fM_back_17 N σ1
def fM_isKnown_30 (N : Nat) (σ : St) : Option Int32 :=
  some 1
def fM_isKnown (N : Nat) (x1 : Int32) (x2 : Int32) (σ : St) : Option Int32 :=
  chk (inb x1 160) <|
  if x2 < (σ.1 233 0 0 x1.toNatClampNeg) then
    some 0
  else
    if (σ.1 234 0 0 x1.toNatClampNeg) = (-1) then
      fM_isKnown_30 N σ
    else
      if (σ.1 234 0 0 x1.toNatClampNeg) ≤ x2 then
        some 0
      else
        fM_isKnown_30 N σ
def fM_beginRun_128 (N : Nat) : Nat → Int32 → Int32 → St → Option St
  | 0, _, _, _ => none
  | n+1, x1, x2, σ =>
    if (σ.1 218 0 0 0) ≤ x2 then
      some σ
    else
      chk (inb x2 160) <|
      if (σ.1 229 0 0 x2.toNatClampNeg) = 8 then
        bn1 (fM_isKnown N x2 x1 σ) fun r1 =>
        if r1 = 0 then
          (fM_beginRun_128 N n) x1 (x2 + 1) σ
        else
          chk (inb (σ.1 231 0 0 x2.toNatClampNeg) 160) <|
          nm (sI σ 278 0 0 (σ.1 231 0 0 x2.toNatClampNeg).toNatClampNeg (1 &&& 1)) fun (σ2 : St) =>
          (fM_beginRun_128 N n) x1 (x2 + 1) σ2
      else
        (fM_beginRun_128 N n) x1 (x2 + 1) σ
def fM_beginRun_99 (N : Nat) : Nat → Int32 → Int32 → St → Option St
  | 0, _, _, _ => none
  | n+1, x1, x2, σ =>
    if 160 ≤ x2 then
      fM_beginRun_128 N N x1 0 σ
    else
      chk (inb x2 160) <|
      nm (sI σ 277 0 0 x2.toNatClampNeg (0 &&& 1)) fun (σ1 : St) =>
      nm (sI σ1 278 0 0 x2.toNatClampNeg (0 &&& 1)) fun (σ2 : St) =>
      (fM_beginRun_99 N n) x1 (x2 + 1) σ2
def fM_beginRun_17 (N : Nat) : Nat → Int32 → Int32 → St → Option St
  | 0, _, _, _ => none
  | n+1, x1, x2, σ =>
    if 20 ≤ x2 then
      fM_beginRun_99 N N x1 0 σ
    else
      chk (inb x2 20) <|
      nm (sI σ 275 0 0 x2.toNatClampNeg (1 &&& 1)) fun (σ1 : St) =>
      nm (sI σ1 276 0 0 x2.toNatClampNeg (0 &&& 1)) fun (σ2 : St) =>
      nm (sI σ2 279 0 0 x2.toNatClampNeg 0) fun (σ3 : St) =>
      nm (sI σ3 280 0 0 x2.toNatClampNeg (σ3.1 214 0 0 x2.toNatClampNeg)) fun (σ4 : St) =>
      nm (sI σ4 281 0 0 x2.toNatClampNeg (-1)) fun (σ5 : St) =>
      nm (sI σ5 282 0 0 x2.toNatClampNeg 0) fun (σ6 : St) =>
      nm (sI σ6 283 0 0 x2.toNatClampNeg 0) fun (σ7 : St) =>
      nm (sI σ7 284 0 0 x2.toNatClampNeg (-1)) fun (σ8 : St) =>
      nm (sI σ8 285 0 0 x2.toNatClampNeg 0) fun (σ9 : St) =>
      (fM_beginRun_17 N n) x1 (x2 + 1) σ9
def fM_beginRun (N : Nat) (x1 : Int32) (σ : St) : Option St :=
  bn1 (fM_tellBooks N x1 σ) fun σ1 =>
  nm (sI σ1 286 0 0 0 0) fun (σ2 : St) =>
  nm (sI σ2 287 0 0 0 0) fun (σ3 : St) =>
  fM_beginRun_17 N N x1 0 σ3
def fM_isLater_35 (N : Nat) (σ : St) : Option Int32 :=
  some 1
def fM_isLater (N : Nat) (x1 : Int32) (x2 : Int32) (σ : St) : Option Int32 :=
  chk (inb x1 17) <|
  chk (inb x2 17) <|
  if (σ.1 235 0 0 x2.toNatClampNeg) < (σ.1 235 0 0 x1.toNatClampNeg) then
    fM_isLater_35 N σ
  else
    if (σ.1 235 0 0 x1.toNatClampNeg) = (σ.1 235 0 0 x2.toNatClampNeg) then
      if x1 ≤ x2 then
        some 0
      else
        fM_isLater_35 N σ
    else
      some 0
def fM_tellLaw_141 (N : Nat) (go7 : Int32 → Int32 → Int32 → St → Option St) (x1 : Int32) (x2 : Int32) (x3 : Int32) (x5 : Int32) (σ : St) : Option St :=
  chk (inb x5 17) <|
  nm (sI σ 262 0 0 x5.toNatClampNeg x3) fun (σ1 : St) =>
  nm (sI σ1 263 0 0 0 ((σ1.1 263 0 0 0) + 1)) fun (σ2 : St) =>
  go7 x1 x2 (x3 + 1) σ2
def fM_tellLaw_97 (N : Nat) (go7 : Int32 → Int32 → Int32 → St → Option St) : Nat → Int32 → Int32 → Int32 → Int32 → St → Option St
  | 0, _, _, _, _, _ => none
  | n+1, x1, x2, x3, x5, σ =>
    if x5 ≤ 0 then
      fM_tellLaw_141 N go7 x1 x2 x3 x5 σ
    else
      chk (inb (x5 - 1) 17) <|
      bn1 (fM_isLater N x3 (σ.1 262 0 0 (x5 - 1).toNatClampNeg) σ) fun r1 =>
      if r1 = 0 then
        fM_tellLaw_141 N go7 x1 x2 x3 x5 σ
      else
        chk (inb x5 17) <|
        nm (sI σ 262 0 0 x5.toNatClampNeg (σ.1 262 0 0 (x5 - 1).toNatClampNeg)) fun (σ2 : St) =>
        (fM_tellLaw_97 N go7 n) x1 x2 x3 (x5 + (-1)) σ2
def fM_tellLaw_61 (N : Nat) (go7 : Int32 → Int32 → Int32 → St → Option St) (x1 : Int32) (x2 : Int32) (x3 : Int32) (s0 : Int32) (σ : St) : Option St :=
  if s0 = 0 then
    go7 x1 x2 (x3 + 1) σ
  else
    chk (inb x3 17) <|
    if x1 < (σ.1 235 0 0 x3.toNatClampNeg) then
      go7 x1 x2 (x3 + 1) σ
    else
      if x1 < (σ.1 236 0 0 x3.toNatClampNeg) then
        nm ((σ.1 263 0 0 0)) fun (y1 : Int32) =>
        fM_tellLaw_97 N go7 N x1 x2 x3 y1 σ
      else
        go7 x1 x2 (x3 + 1) σ
def fM_tellLaw_56 (N : Nat) (go7 : Int32 → Int32 → Int32 → St → Option St) (x1 : Int32) (x2 : Int32) (x3 : Int32) (σ : St) : Option St :=
  fM_tellLaw_61 N go7 x1 x2 x3 1 σ
def fM_tellLaw_46 (N : Nat) (go7 : Int32 → Int32 → Int32 → St → Option St) (x1 : Int32) (x2 : Int32) (x3 : Int32) (σ : St) : Option St :=
  chk (inb x3 17) <|
  if x2 < (σ.1 237 0 0 x3.toNatClampNeg) then
    fM_tellLaw_61 N go7 x1 x2 x3 0 σ
  else
    fM_tellLaw_56 N go7 x1 x2 x3 σ
def fM_tellLaw_226 (N : Nat) (go219 : Int32 → St → Option St) : Nat → Int32 → Int32 → St → Option St
  | 0, _, _, _ => none
  | n+1, x3, x4, σ =>
    chk (inb x3 17) <|
    chk (inb (σ.1 262 0 0 x3.toNatClampNeg) 17) <|
    if (σ.1 238 0 0 (σ.1 262 0 0 x3.toNatClampNeg).toNatClampNeg) ≤ x4 then
      go219 (x3 + (-1)) σ
    else
      nm (((24 * (σ.1 262 0 0 x3.toNatClampNeg)) + x4)) fun (y1 : Int32) =>
      chk (inb y1 408) <|
      chk (inb (σ.1 239 0 0 y1.toNatClampNeg) 7) <|
      nm (sI σ 264 0 0 (σ.1 239 0 0 y1.toNatClampNeg).toNatClampNeg y1) fun (σ2 : St) =>
      if (σ2.1 239 0 0 y1.toNatClampNeg) = 1 then
        chk (inb (σ2.1 240 0 0 y1.toNatClampNeg) 8) <|
        nm (sI σ2 265 0 0 (σ2.1 240 0 0 y1.toNatClampNeg).toNatClampNeg (σ2.1 241 0 0 y1.toNatClampNeg)) fun (σ3 : St) =>
        (fM_tellLaw_226 N go219 n) x3 (x4 + 1) σ3
      else
        (fM_tellLaw_226 N go219 n) x3 (x4 + 1) σ2
def fM_tellLaw_219 (N : Nat) : Nat → Int32 → St → Option St
  | 0, _, _ => none
  | n+1, x3, σ =>
    if x3 < 0 then
      some σ
    else
      fM_tellLaw_226 N (fM_tellLaw_219 N n) N x3 0 σ
def fM_tellLaw_188 (N : Nat) : Nat → Int32 → St → Option St
  | 0, _, _ => none
  | n+1, x3, σ =>
    if 8 ≤ x3 then
      nm (((σ.1 263 0 0 0) - 1)) fun (y1 : Int32) =>
      fM_tellLaw_219 N N y1 σ
    else
      chk (inb x3 8) <|
      nm (sI σ 265 0 0 x3.toNatClampNeg (σ.1 203 0 0 x3.toNatClampNeg)) fun (σ2 : St) =>
      (fM_tellLaw_188 N n) (x3 + 1) σ2
def fM_tellLaw_167 (N : Nat) : Nat → Int32 → St → Option St
  | 0, _, _ => none
  | n+1, x3, σ =>
    if 6 < x3 then
      fM_tellLaw_188 N N 0 σ
    else
      chk (inb x3 7) <|
      nm (sI σ 264 0 0 x3.toNatClampNeg (-1)) fun (σ1 : St) =>
      (fM_tellLaw_167 N n) (x3 + 1) σ1
def fM_tellLaw_28 (N : Nat) (go7 : Int32 → Int32 → Int32 → St → Option St) (x1 : Int32) (x2 : Int32) (x3 : Int32) (s0 : Int32) (s1 : Int32) (σ : St) : Option St :=
  if s1 ≤ s0 then
    fM_tellLaw_167 N N 0 σ
  else
    if (σ.1 266 0 0 0) = 0 then
      fM_tellLaw_46 N go7 x1 x2 x3 σ
    else
      if x3 = (σ.1 219 0 0 0) then
        fM_tellLaw_56 N go7 x1 x2 x3 σ
      else
        fM_tellLaw_46 N go7 x1 x2 x3 σ
def fM_tellLaw_7 (N : Nat) : Nat → Int32 → Int32 → Int32 → St → Option St
  | 0, _, _, _, _ => none
  | n+1, x1, x2, x3, σ =>
    if (σ.1 266 0 0 0) = 0 then
      fM_tellLaw_28 N (fM_tellLaw_7 N n) x1 x2 x3 x3 (σ.1 219 0 0 0) σ
    else
      fM_tellLaw_28 N (fM_tellLaw_7 N n) x1 x2 x3 x3 ((σ.1 219 0 0 0) + 1) σ
def fM_tellLaw (N : Nat) (x1 : Int32) (x2 : Int32) (σ : St) : Option St :=
  nm (sI σ 263 0 0 0 0) fun (σ1 : St) =>
  fM_tellLaw_7 N N x1 x2 0 σ1
def fM_noOffer (N : Nat) (σ : St) : Option St :=
  nm (sI σ 270 0 0 0 0) fun (σ1 : St) =>
  nm (sI σ1 271 0 0 0 0) fun (σ2 : St) =>
  nm (sI σ2 272 0 0 0 0) fun (σ3 : St) =>
  some σ3
def fM_two_124 (N : Nat) (σ : St) : Option Int64 :=
  some 1
def fM_two (N : Nat) (x0 : Int32) (x1 : Int64) (x3 : Int64) (σ : St) : Option Int64 :=
  if x0 = 1 then
    some (x1 + x3)
  else
  if x0 = 2 then
    some (x1 - x3)
  else
  if x0 = 3 then
    some (x1 * x3)
  else
  if x0 = 4 then
    if (lg_cmp x3 0) = 0 then
      some 0
    else
      chk (¬ x3 = 0) <|
      some (x1 / x3)
  else
  if x0 = 5 then
    if 0 ≤ (lg_cmp x1 x3) then
      some 0
    else
      some 1
  else
  if x0 = 6 then
    if (lg_cmp x1 x3) = 0 then
      some 1
    else
      some 0
  else
  if x0 = 7 then
    if (lg_cmp x1 0) = 0 then
      some 0
    else
      if (lg_cmp x3 0) = 0 then
        some 0
      else
        some 1
  else
  if (lg_cmp x1 0) = 0 then
    if (lg_cmp x3 0) = 0 then
      some 0
    else
      fM_two_124 N σ
  else
    fM_two_124 N σ
def fM_openOf (N : Nat) (x1 : Int32) (σ : St) : Option Int32 :=
  chk (inb x1 20) <|
  nm ((σ.1 284 0 0 x1.toNatClampNeg)) fun (y1 : Int32) =>
  if y1 = (-1) then
    some (-1)
  else
    chk (inb y1 160) <|
    if (σ.1 297 0 0 y1.toNatClampNeg) = (-1) then
      some y1
    else
      some (-1)
def fM_stampsAt (N : Nat) (x1 : Int32) (x2 : Int32) (σ : St) : Option Int32 :=
  bn1 (fM_inRow N x1 x2 σ) fun r1 =>
  if r1 = (-1) then
    chk (inb ((156 * x1) + x2) 3120) <|
    some (σ.1 261 0 0 ((156 * x1) + x2).toNatClampNeg)
  else
    some r1
def fM_stampsAhead_11 (N : Nat) : Nat → Int32 → Int32 → Int32 → Int32 → St → Option Int32
  | 0, _, _, _, _, _ => none
  | n+1, x1, x2, x3, x4, σ =>
    if (x2 / 6) ≤ x4 then
      some x3
    else
      bn1 (fM_stampsAt N x1 x4 σ) fun r1 =>
      bn1 (fMath_max_I N 0 r1 σ) fun r2 =>
      nm ((x3 + r2)) fun (y3 : Int32) =>
      (fM_stampsAhead_11 N n) x1 x2 y3 (x4 + 1) σ
def fM_stampsAhead (N : Nat) (x1 : Int32) (x2 : Int32) (σ : St) : Option Int32 :=
  nm (((x2 / 6) - 52)) fun (y1 : Int32) =>
  fM_stampsAhead_11 N N x1 x2 0 y1 σ
def fM_unknownAhead_37 (N : Nat) (go11 : Int32 → Int32 → Int32 → Int32 → St → Option Int32) (x1 : Int32) (x2 : Int32) (x4 : Int32) (s0 : Int32) (s1 : Int32) (σ : St) : Option Int32 :=
  nm ((s0 + s1)) fun (y1 : Int32) =>
  go11 x1 x2 y1 (x4 + 1) σ
def fM_unknownAhead_11 (N : Nat) : Nat → Int32 → Int32 → Int32 → Int32 → St → Option Int32
  | 0, _, _, _, _, _ => none
  | n+1, x1, x2, x3, x4, σ =>
    if (x2 / 6) ≤ x4 then
      some x3
    else
      bn1 (fM_stampsAt N x1 x4 σ) fun r1 =>
      if r1 = (-1) then
        fM_unknownAhead_37 N (fM_unknownAhead_11 N n) x1 x2 x4 x3 1 σ
      else
        fM_unknownAhead_37 N (fM_unknownAhead_11 N n) x1 x2 x4 x3 0 σ
def fM_unknownAhead (N : Nat) (x1 : Int32) (x2 : Int32) (σ : St) : Option Int32 :=
  nm (((x2 / 6) - 52)) fun (y1 : Int32) =>
  fM_unknownAhead_11 N N x1 x2 0 y1 σ
def fM_param (N : Nat) (x1 : Int32) (σ : St) : Option Int32 :=
  chk (inb x1 8) <|
  some (σ.1 265 0 0 x1.toNatClampNeg)
def fM_valueOf_138 (N : Nat) (σ : St) : Option Int64 :=
  some 0
def fM_valueOf (N : Nat) (x1 : Int32) (σ : St) : Option Int64 :=
  if 8 ≤ x1 then
    bn1 (fM_openOf N (σ.1 268 0 0 0) σ) fun r1 =>
    if x1 = 8 then
      chk (inb (σ.1 268 0 0 0) 20) <|
      some ((σ.1 212 0 0 (σ.1 268 0 0 0).toNatClampNeg).toInt64)
    else
    if x1 = 9 then
      chk (inb (σ.1 268 0 0 0) 20) <|
      some ((σ.1 211 0 0 (σ.1 268 0 0 0).toNatClampNeg).toInt64)
    else
    if x1 = 10 then
      chk (inb (σ.1 268 0 0 0) 20) <|
      some ((σ.1 280 0 0 (σ.1 268 0 0 0).toNatClampNeg).toInt64)
    else
    if x1 = 11 then
      chk (inb (σ.1 268 0 0 0) 20) <|
      if (σ.1 275 0 0 (σ.1 268 0 0 0).toNatClampNeg) = 0 then
        if (σ.1 281 0 0 (σ.1 268 0 0 0).toNatClampNeg) = (-1) then
          fM_valueOf_138 N σ
        else
          some (((σ.1 269 0 0 0) - (σ.1 281 0 0 (σ.1 268 0 0 0).toNatClampNeg)).toInt64)
      else
        fM_valueOf_138 N σ
    else
    if x1 = 12 then
      if r1 = (-1) then
        some 0
      else
        chk (inb r1 160) <|
        some ((((σ.1 293 0 0 r1.toNatClampNeg) + (σ.1 294 0 0 r1.toNatClampNeg)) + (σ.1 295 0 0 r1.toNatClampNeg)).toInt64)
    else
    if x1 = 13 then
      if r1 = (-1) then
        bn1 (fM_stampsAhead N (σ.1 268 0 0 0) (σ.1 269 0 0 0) σ) fun r2 =>
        some r2.toInt64
      else
        chk (inb r1 160) <|
        some ((σ.1 298 0 0 r1.toNatClampNeg).toInt64)
    else
    if x1 = 14 then
      if r1 = (-1) then
        bn1 (fM_unknownAhead N (σ.1 268 0 0 0) (σ.1 269 0 0 0) σ) fun r3 =>
        some r3.toInt64
      else
        chk (inb r1 160) <|
        some ((σ.1 299 0 0 r1.toNatClampNeg).toInt64)
    else
    if x1 = 15 then
      chk (inb (σ.1 268 0 0 0) 20) <|
      some ((σ.1 282 0 0 (σ.1 268 0 0 0).toNatClampNeg).toInt64)
    else
    if x1 = 16 then
      chk (inb (σ.1 268 0 0 0) 20) <|
      some ((σ.1 283 0 0 (σ.1 268 0 0 0).toNatClampNeg).toInt64)
    else
    if x1 = 17 then
      some ((σ.1 270 0 0 0).toInt64)
    else
    if x1 = 18 then
      some ((σ.1 271 0 0 0).toInt64)
    else
    some ((σ.1 272 0 0 0).toInt64)
  else
    bn1 (fM_param N x1 σ) fun r4 =>
    some r4.toInt64
def fM_worked_108 (N : Nat) (go5 : Int32 → Int32 → Int32 → St → Option (Int64 × St)) (x2 : Int32) (x3 : Int32) (x4 : Int32) (s1 : Int32) (s2 : Int64) (σ : St) : Option (Int64 × St) :=
  chk (inb s1 200) <|
  nm (sJ σ 267 0 0 s1.toNatClampNeg s2) fun (σ1 : St) =>
  go5 x2 x3 (x4 + 1) σ1
def fM_worked_5 (N : Nat) : Nat → Int32 → Int32 → Int32 → St → Option (Int64 × St)
  | 0, _, _, _, _ => none
  | n+1, x2, x3, x4, σ =>
    if x2 ≤ x4 then
      some ((σ.2 267 0 0 0), σ)
    else
      chk (inb x4 17000) <|
      nm ((σ.1 245 0 0 x4.toNatClampNeg)) fun (y1 : Int32) =>
      if y1 = 0 then
        chk (inb (x4 + 1) 17000) <|
        chk (inb x3 200) <|
        nm (sJ σ 267 0 0 x3.toNatClampNeg (σ.1 245 0 0 (x4 + 1).toNatClampNeg).toInt64) fun (σ6 : St) =>
        nm (((x4 + 1) + 1)) fun (y7 : Int32) =>
        (fM_worked_5 N n) x2 (x3 + 1) y7 σ6
      else
        if y1 < 20 then
          if y1 = 9 then
            chk (inb (x3 - 1) 200) <|
            if (lg_cmp (σ.2 267 0 0 (x3 - 1).toNatClampNeg) 0) = 0 then
              fM_worked_108 N (fM_worked_5 N n) x2 x3 x4 (x3 - 1) 1 σ
            else
              fM_worked_108 N (fM_worked_5 N n) x2 x3 x4 (x3 - 1) 0 σ
          else
            chk (inb ((x3 + (-1)) - 1) 200) <|
            chk (inb (x3 + (-1)) 200) <|
            bn1 (fM_two N y1 (σ.2 267 0 0 ((x3 + (-1)) - 1).toNatClampNeg) (σ.2 267 0 0 (x3 + (-1)).toNatClampNeg) σ) fun r2 =>
            nm (sJ σ 267 0 0 ((x3 + (-1)) - 1).toNatClampNeg r2) fun (σ3 : St) =>
            (fM_worked_5 N n) x2 (x3 + (-1)) (x4 + 1) σ3
        else
          bn1 (fM_valueOf N (y1 - 20) σ) fun r4 =>
          chk (inb x3 200) <|
          nm (sJ σ 267 0 0 x3.toNatClampNeg r4) fun (σ5 : St) =>
          (fM_worked_5 N n) x2 (x3 + 1) (x4 + 1) σ5
def fM_worked (N : Nat) (x1 : Int32) (x2 : Int32) (σ : St) : Option (Int64 × St) :=
  fM_worked_5 N N x2 0 x1 σ
def fM_told0_51 (N : Nat) (x1 : Int32) (x2 : Int32) (σ : St) : Option (Int64 × St) :=
  chk (inb x1 408) <|
  bnd (fM_worked N (x2 + (σ.1 242 0 0 x1.toNatClampNeg)) (x2 + (σ.1 243 0 0 x1.toNatClampNeg)) σ) fun r1 σ2 =>
  some (r1, σ2)
def fM_told0 (N : Nat) (x1 : Int32) (σ : St) : Option (Int64 × St) :=
  nm ((1000 * (x1 / 24))) fun (y1 : Int32) =>
  chk (inb x1 408) <|
  if (σ.1 244 0 0 x1.toNatClampNeg) ≤ (σ.1 243 0 0 x1.toNatClampNeg) then
    fM_told0_51 N x1 y1 σ
  else
    bnd (fM_worked N (y1 + (σ.1 243 0 0 x1.toNatClampNeg)) (y1 + (σ.1 244 0 0 x1.toNatClampNeg)) σ) fun r2 σ3 =>
    if (lg_cmp r2 0) = 0 then
      fM_told0_51 N x1 y1 σ3
    else
      some (0, σ3)
def fM_barDays_12 (N : Nat) (go2 : Int32 → St → Option (Int64 × St)) : Nat → Int32 → Int32 → St → Option (Int64 × St)
  | 0, _, _, _ => none
  | n+1, x1, x2, σ =>
    chk (inb x1 17) <|
    chk (inb (σ.1 262 0 0 x1.toNatClampNeg) 17) <|
    if (σ.1 238 0 0 (σ.1 262 0 0 x1.toNatClampNeg).toNatClampNeg) ≤ x2 then
      go2 (x1 + 1) σ
    else
      nm (((24 * (σ.1 262 0 0 x1.toNatClampNeg)) + x2)) fun (y1 : Int32) =>
      chk (inb y1 408) <|
      if (σ.1 239 0 0 y1.toNatClampNeg) = 6 then
        bnd (fM_told0 N y1 σ) fun r2 σ3 =>
        if (lg_cmp r2 0) = 0 then
          (fM_barDays_12 N go2 n) x1 (x2 + 1) σ3
        else
          some ((σ3.1 241 0 0 y1.toNatClampNeg).toInt64, σ3)
      else
        (fM_barDays_12 N go2 n) x1 (x2 + 1) σ
def fM_barDays_2 (N : Nat) : Nat → Int32 → St → Option (Int64 × St)
  | 0, _, _ => none
  | n+1, x1, σ =>
    if (σ.1 263 0 0 0) ≤ x1 then
      nm ((σ.1 264 0 0 4)) fun (y1 : Int32) =>
      if y1 = (-1) then
        some (0, σ)
      else
        bnd (fM_told0 N y1 σ) fun r2 σ3 =>
        some (r2, σ3)
    else
      fM_barDays_12 N (fM_barDays_2 N n) N x1 0 σ
def fM_barDays (N : Nat) (σ : St) : Option (Int64 × St) :=
  fM_barDays_2 N N 0 σ
def fM_bar (N : Nat) (x1 : Int32) (x2 : Int32) (σ : St) : Option St :=
  chk (inb x2 160) <|
  if (σ.1 278 0 0 x2.toNatClampNeg) = 0 then
    bnd (fM_barDays N σ) fun r1 σ2 =>
    bn1 (fMath_min_J N 9999 r1 σ2) fun r3 =>
    if 0 < (lg_cmp r3 0) then
      chk (inb (σ2.1 287 0 0 0) 160) <|
      nm (sI σ2 301 0 0 (σ2.1 287 0 0 0).toNatClampNeg x1) fun (σ4 : St) =>
      chk (inb (σ4.1 287 0 0 0) 160) <|
      nm (sI σ4 302 0 0 (σ4.1 287 0 0 0).toNatClampNeg (σ4.1 269 0 0 0)) fun (σ5 : St) =>
      chk (inb (σ5.1 287 0 0 0) 160) <|
      nm (sI σ5 303 0 0 (σ5.1 287 0 0 0).toNatClampNeg (((σ5.1 269 0 0 0) + r3.toInt32) - 1)) fun (σ6 : St) =>
      nm (sI σ6 287 0 0 0 ((σ6.1 287 0 0 0) + 1)) fun (σ7 : St) =>
      some σ7
    else
      some σ2
  else
    some σ
def fM_close0 (N : Nat) (x1 : Int32) (σ : St) : Option St :=
  bn1 (fM_openOf N x1 σ) fun r1 =>
  if r1 = (-1) then
    some σ
  else
    chk (inb r1 160) <|
    nm (sI σ 297 0 0 r1.toNatClampNeg (σ.1 269 0 0 0)) fun (σ2 : St) =>
    some σ2
def fM_milesOf (N : Nat) (x1 : Int32) (x2 : Int32) (σ : St) : Option Int32 :=
  chk (inb x1 8) <|
  chk (inb x2 8) <|
  bn1 (fMath_abs_I N ((σ.1 209 0 0 x1.toNatClampNeg) - (σ.1 209 0 0 x2.toNatClampNeg)) σ) fun r1 =>
  bn1 (fMath_abs_I N ((σ.1 210 0 0 x1.toNatClampNeg) - (σ.1 210 0 0 x2.toNatClampNeg)) σ) fun r2 =>
  some (r1 + r2)
def fM_takeUp_51 (N : Nat) (s1 : Int32) (σ : St) : Option St :=
  nm (sI σ 272 0 0 0 s1) fun (σ1 : St) =>
  some σ1
def fM_takeUp (N : Nat) (x1 : Int32) (x2 : Int32) (σ : St) : Option St :=
  chk (inb x1 20) <|
  chk (inb x2 24) <|
  bn1 (fM_milesOf N (σ.1 213 0 0 x1.toNatClampNeg) (σ.1 318 0 0 x2.toNatClampNeg) σ) fun r1 =>
  nm (sI σ 270 0 0 0 r1) fun (σ2 : St) =>
  nm (sI σ2 271 0 0 0 (σ2.1 320 0 0 x2.toNatClampNeg)) fun (σ3 : St) =>
  if (σ3.1 319 0 0 x2.toNatClampNeg) = (σ3.1 211 0 0 x1.toNatClampNeg) then
    fM_takeUp_51 N 1 σ3
  else
    fM_takeUp_51 N 0 σ3
def fM_refuses (N : Nat) (x1 : Int32) (x2 : Int32) (x3 : Int32) (σ : St) : Option St :=
  chk (inb x1 20) <|
  nm ((σ.1 283 0 0 x1.toNatClampNeg)) fun (y1 : Int32) =>
  nm (sI σ 283 0 0 x1.toNatClampNeg 4) fun (σ2 : St) =>
  chk (inb x2 60) <|
  bn1 (fM_takeUp N x1 (σ2.1 326 0 0 x2.toNatClampNeg) σ2) fun σ3 =>
  bn1 (fM_bar N x1 x3 σ3) fun σ4 =>
  bn1 (fM_noOffer N σ4) fun σ5 =>
  nm (sI σ5 283 0 0 x1.toNatClampNeg y1) fun (σ6 : St) =>
  some σ6
def fM_isInsured (N : Nat) (x1 : Int32) (σ : St) : Option Int32 :=
  nm ((σ.1 264 0 0 0)) fun (y1 : Int32) =>
  if y1 = (-1) then
    some 0
  else
    chk (inb y1 408) <|
    if (((σ.1 240 0 0 y1.toNatClampNeg) >>> (x1 &&& 31)) &&& 1) = 1 then
      some 1
    else
      some 0
def fM_signs_49 (N : Nat) (x1 : Int32) (σ : St) : Option St :=
  bn1 (fM_param N 4 σ) fun r1 =>
  bn1 (fMath_max_I N 1 r1 σ) fun r2 =>
  nm ((σ.1 286 0 0 0)) fun (y3 : Int32) =>
  nm (sI σ 286 0 0 0 ((σ.1 286 0 0 0) + 1)) fun (σ4 : St) =>
  chk (inb y3 160) <|
  nm (sI σ4 288 0 0 y3.toNatClampNeg x1) fun (σ5 : St) =>
  chk (inb x1 20) <|
  nm (sI σ5 289 0 0 y3.toNatClampNeg (σ5.1 285 0 0 x1.toNatClampNeg)) fun (σ6 : St) =>
  nm (sI σ6 285 0 0 x1.toNatClampNeg ((σ6.1 285 0 0 x1.toNatClampNeg) + 1)) fun (σ7 : St) =>
  nm (sI σ7 290 0 0 y3.toNatClampNeg (σ7.1 269 0 0 0)) fun (σ8 : St) =>
  bn1 (fM_stampsAhead N x1 (σ8.1 269 0 0 0) σ8) fun r9 =>
  nm (sI σ8 298 0 0 y3.toNatClampNeg r9) fun (σ10 : St) =>
  bn1 (fM_unknownAhead N x1 (σ10.1 269 0 0 0) σ10) fun r11 =>
  nm (sI σ10 299 0 0 y3.toNatClampNeg r11) fun (σ12 : St) =>
  chk (¬ r2 = 0) <|
  bn1 (fM_param N 3 σ12) fun r13 =>
  bn1 (fMath_min_I N ((σ12.1 298 0 0 y3.toNatClampNeg) / r2) r13 σ12) fun r14 =>
  nm (sI σ12 291 0 0 y3.toNatClampNeg r14) fun (σ15 : St) =>
  nm (sI σ15 292 0 0 y3.toNatClampNeg 0) fun (σ16 : St) =>
  nm (sI σ16 293 0 0 y3.toNatClampNeg 0) fun (σ17 : St) =>
  nm (sI σ17 294 0 0 y3.toNatClampNeg 0) fun (σ18 : St) =>
  nm (sI σ18 295 0 0 y3.toNatClampNeg 0) fun (σ19 : St) =>
  nm (sI σ19 296 0 0 y3.toNatClampNeg 0) fun (σ20 : St) =>
  nm (sI σ20 297 0 0 y3.toNatClampNeg (-1)) fun (σ21 : St) =>
  nm (sJ σ21 300 0 0 y3.toNatClampNeg 0) fun (σ22 : St) =>
  nm (sI σ22 284 0 0 x1.toNatClampNeg y3) fun (σ23 : St) =>
  some σ23
def fM_signs (N : Nat) (x1 : Int32) (σ : St) : Option St :=
  chk (inb x1 20) <|
  nm ((σ.1 284 0 0 x1.toNatClampNeg)) fun (y1 : Int32) =>
  if y1 = (-1) then
    fM_signs_49 N x1 σ
  else
    chk (inb y1 160) <|
    bn1 (fM_param N 1 σ) fun r2 =>
    if r2 < ((σ.1 269 0 0 0) - (σ.1 297 0 0 y1.toNatClampNeg)) then
      fM_signs_49 N x1 σ
    else
      nm (sI σ 297 0 0 y1.toNatClampNeg (-1)) fun (σ3 : St) =>
      nm (sI σ3 296 0 0 y1.toNatClampNeg ((σ3.1 296 0 0 y1.toNatClampNeg) + 1)) fun (σ4 : St) =>
      some σ4
def fM_done0_185 (N : Nat) (x2 : Int32) (σ : St) : Option (Int32 × St) :=
  chk (inb x2 20) <|
  if (σ.1 276 0 0 x2.toNatClampNeg) = 0 then
    bn1 (fM_openOf N x2 σ) fun r1 =>
    if r1 = (-1) then
      bn1 (fM_isInsured N (σ.1 211 0 0 x2.toNatClampNeg) σ) fun r2 =>
      if r2 = 0 then
        some (0, σ)
      else
        bn1 (fM_signs N x2 σ) fun σ3 =>
        some (1, σ3)
    else
      some (0, σ)
  else
    some (0, σ)
def fM_done0_321 (N : Nat) (x2 : Int32) (x3 : Int32) (s1 : Int32) (s2 : Int32) (σ : St) : Option (Int32 × St) :=
  chk (inb s1 20) <|
  nm (sI σ 279 0 0 s1.toNatClampNeg s2) fun (σ1 : St) =>
  if x3 = 6 then
    bn1 (fM_close0 N x2 σ1) fun σ2 =>
    some (1, σ2)
  else
    some (1, σ1)
def fM_done0_305 (N : Nat) (x2 : Int32) (x3 : Int32) (σ : St) : Option (Int32 × St) :=
  if x3 = 6 then
    fM_done0_321 N x2 x3 x2 0 σ
  else
    fM_done0_321 N x2 x3 x2 x3 σ
def fM_done0 (N : Nat) (x1 : Int32) (σ : St) : Option (Int32 × St) :=
  chk (inb x1 160) <|
  nm ((σ.1 230 0 0 x1.toNatClampNeg)) fun (y1 : Int32) =>
  nm ((σ.1 231 0 0 x1.toNatClampNeg)) fun (y2 : Int32) =>
  nm (sI σ 268 0 0 0 y1) fun (σ3 : St) =>
  bn1 (fM_noOffer N σ3) fun σ4 =>
  if (σ4.1 229 0 0 x1.toNatClampNeg) = 0 then
    chk (inb y1 20) <|
    if (σ4.1 275 0 0 y1.toNatClampNeg) = 0 then
      some (0, σ4)
    else
      nm (sI σ4 275 0 0 y1.toNatClampNeg (0 &&& 1)) fun (σ5 : St) =>
      nm (sI σ5 279 0 0 y1.toNatClampNeg 0) fun (σ6 : St) =>
      nm (sI σ6 281 0 0 y1.toNatClampNeg (σ6.1 269 0 0 0)) fun (σ7 : St) =>
      nm (sI σ7 283 0 0 y1.toNatClampNeg y2) fun (σ8 : St) =>
      bn1 (fM_bar N y1 x1 σ8) fun σ9 =>
      some (1, σ9)
  else
  if (σ4.1 229 0 0 x1.toNatClampNeg) = 1 then
    chk (inb y1 20) <|
    if (σ4.1 275 0 0 y1.toNatClampNeg) = 0 then
      if (σ4.1 276 0 0 y1.toNatClampNeg) = 0 then
        nm (sI σ4 275 0 0 y1.toNatClampNeg (1 &&& 1)) fun (σ10 : St) =>
        nm (sI σ10 280 0 0 y1.toNatClampNeg y2) fun (σ11 : St) =>
        bn1 (fM_close0 N y1 σ11) fun σ12 =>
        some (1, σ12)
      else
        some (0, σ4)
    else
      some (0, σ4)
  else
  if (σ4.1 229 0 0 x1.toNatClampNeg) = 2 then
    chk (inb y1 20) <|
    if (σ4.1 275 0 0 y1.toNatClampNeg) = 0 then
      fM_done0_185 N y1 σ4
    else
      if (σ4.1 279 0 0 y1.toNatClampNeg) = 0 then
        some (0, σ4)
      else
        fM_done0_185 N y1 σ4
  else
  if (σ4.1 229 0 0 x1.toNatClampNeg) = 3 then
    chk (inb y1 20) <|
    if (σ4.1 276 0 0 y1.toNatClampNeg) = 0 then
      bn1 (fM_close0 N y1 σ4) fun σ13 =>
      nm (sI σ13 276 0 0 y1.toNatClampNeg (1 &&& 1)) fun (σ14 : St) =>
      some (1, σ14)
    else
      some (0, σ4)
  else
  if (σ4.1 229 0 0 x1.toNatClampNeg) = 4 then
    chk (inb y1 20) <|
    if (σ4.1 276 0 0 y1.toNatClampNeg) = 0 then
      some (0, σ4)
    else
      nm (sI σ4 276 0 0 y1.toNatClampNeg (0 &&& 1)) fun (σ15 : St) =>
      some (1, σ15)
  else
  if (σ4.1 229 0 0 x1.toNatClampNeg) = 5 then
    chk (inb y1 20) <|
    nm (sI σ4 282 0 0 y1.toNatClampNeg y2) fun (σ16 : St) =>
    some (1, σ16)
  else
  if (σ4.1 229 0 0 x1.toNatClampNeg) = 6 then
    chk (inb y1 20) <|
    if (σ4.1 275 0 0 y1.toNatClampNeg) = 0 then
      some (0, σ4)
    else
      if y2 = 6 then
        if (σ4.1 279 0 0 y1.toNatClampNeg) = 0 then
          some (0, σ4)
        else
          fM_done0_305 N y1 y2 σ4
      else
        fM_done0_305 N y1 y2 σ4
  else
  if (σ4.1 229 0 0 x1.toNatClampNeg) = 7 then
    bn1 (fM_openOf N y1 σ4) fun r17 =>
    if r17 = (-1) then
      some (0, σ4)
    else
      chk (inb y2 60) <|
      if (σ4.1 325 0 0 y2.toNatClampNeg) = y1 then
        if (σ4.1 324 0 0 y2.toNatClampNeg) = 0 then
          some (0, σ4)
        else
          bn1 (fM_refuses N y1 y2 x1 σ4) fun σ18 =>
          some (1, σ18)
      else
        some (0, σ4)
  else
  some (1, σ4)
def fM_isBarred_57 (N : Nat) (go4 : Int32 → Int32 → Int32 → St → Option Int32) (x1 : Int32) (x3 : Int32) (s0 : Int32) (σ : St) : Option Int32 :=
  go4 x1 s0 (x3 + 1) σ
def fM_isBarred_52 (N : Nat) (go4 : Int32 → Int32 → Int32 → St → Option Int32) (x1 : Int32) (x3 : Int32) (σ : St) : Option Int32 :=
  fM_isBarred_57 N go4 x1 x3 1 σ
def fM_isBarred_56 (N : Nat) (go4 : Int32 → Int32 → Int32 → St → Option Int32) (x1 : Int32) (x3 : Int32) (σ : St) : Option Int32 :=
  fM_isBarred_57 N go4 x1 x3 0 σ
def fM_isBarred_4 (N : Nat) : Nat → Int32 → Int32 → Int32 → St → Option Int32
  | 0, _, _, _, _ => none
  | n+1, x1, x2, x3, σ =>
    if (σ.1 287 0 0 0) ≤ x3 then
      some (x2 &&& 1)
    else
      if x2 = 0 then
        chk (inb x3 160) <|
        if (σ.1 301 0 0 x3.toNatClampNeg) = x1 then
          if (σ.1 269 0 0 0) < (σ.1 302 0 0 x3.toNatClampNeg) then
            fM_isBarred_56 N (fM_isBarred_4 N n) x1 x3 σ
          else
            if (σ.1 303 0 0 x3.toNatClampNeg) < (σ.1 269 0 0 0) then
              fM_isBarred_56 N (fM_isBarred_4 N n) x1 x3 σ
            else
              fM_isBarred_52 N (fM_isBarred_4 N n) x1 x3 σ
        else
          fM_isBarred_56 N (fM_isBarred_4 N n) x1 x3 σ
      else
        fM_isBarred_52 N (fM_isBarred_4 N n) x1 x3 σ
def fM_isBarred (N : Nat) (x1 : Int32) (σ : St) : Option Int32 :=
  fM_isBarred_4 N N x1 0 0 σ
def fM_kindOf_28 (N : Nat) (x1 : Int32) (x2 : Int32) (σ : St) : Option (Int32 × St) :=
  bn1 (fM_isBarred N x1 σ) fun r1 =>
  if r1 = 0 then
    chk (inb x2 160) <|
    bn1 (fM_param N 0 σ) fun r2 =>
    if r2 ≤ (σ.1 292 0 0 x2.toNatClampNeg) then
      if (σ.1 291 0 0 x2.toNatClampNeg) ≤ (σ.1 293 0 0 x2.toNatClampNeg) then
        bn1 (fM_param N 5 σ) fun r3 =>
        if r3 ≤ (σ.1 294 0 0 x2.toNatClampNeg) then
          nm ((σ.1 264 0 0 3)) fun (y4 : Int32) =>
          if y4 = (-1) then
            some (0, σ)
          else
            bnd (fM_told0 N y4 σ) fun r5 σ6 =>
            if (lg_cmp r5 0) ≤ 0 then
              some (0, σ6)
            else
              some (5, σ6)
        else
          some (4, σ)
      else
        some (3, σ)
    else
      some (2, σ)
  else
    some (1, σ)
def fM_kindOf (N : Nat) (x1 : Int32) (x2 : Int32) (σ : St) : Option (Int32 × St) :=
  chk (inb x1 20) <|
  if (σ.1 279 0 0 x1.toNatClampNeg) ≤ 0 then
    fM_kindOf_28 N x1 x2 σ
  else
    if (σ.1 279 0 0 x1.toNatClampNeg) ≤ (irem (σ.1 269 0 0 0) 6) then
      fM_kindOf_28 N x1 x2 σ
    else
      some (6, σ)
def fM_pay_69 (N : Nat) (s1 : Int32) (s2 : Int32) (σ : St) : Option St :=
  chk (inb s1 12480) <|
  nm (sI σ 305 0 0 s1.toNatClampNeg s2) fun (σ1 : St) =>
  some σ1
def fM_pay_44 (N : Nat) (x1 : Int32) (x3 : Int32) (s1 : Int32) (s2 : Int64) (s3 : Int64) (s4 : Int64) (σ : St) : Option St :=
  bn1 (fMath_min_J N s3 s4 σ) fun r1 =>
  bn1 (fMath_max_J N s2 r1 σ) fun r2 =>
  chk (inb s1 12480) <|
  nm (sJ σ 308 0 0 s1.toNatClampNeg r2) fun (σ3 : St) =>
  if x3 = (-1) then
    fM_pay_69 N x1 (-1) σ3
  else
    fM_pay_69 N x1 (x3 / 24) σ3
def fM_pay_14 (N : Nat) (x1 : Int32) (s1 : Int32) (σ : St) : Option St :=
  chk (inb s1 7) <|
  nm ((σ.1 264 0 0 s1.toNatClampNeg)) fun (y1 : Int32) =>
  if y1 = (-1) then
    bn1 (fM_param N 2 σ) fun r4 =>
    fM_pay_44 N x1 y1 x1 0 9999 r4.toInt64 σ
  else
    bnd (fM_told0 N y1 σ) fun r2 σ3 =>
    fM_pay_44 N x1 y1 x1 0 9999 r2 σ3
def fM_pay (N : Nat) (x1 : Int32) (x2 : Int32) (σ : St) : Option St :=
  if x2 = 5 then
    fM_pay_14 N x1 3 σ
  else
    fM_pay_14 N x1 2 σ
def fM_dayOf_105 (N : Nat) (s1 : Int32) (s2 : Int32) (σ : St) : Option St :=
  chk (inb s1 12480) <|
  nm (sI σ 304 0 0 s1.toNatClampNeg s2) fun (σ1 : St) =>
  some σ1
def fM_dayOf_220 (N : Nat) (x2 : Int32) (x3 : Int32) (s1 : Int32) (s2 : Int32) (s3 : Int32) (σ : St) : Option St :=
  chk (inb s1 160) <|
  nm (sI σ 295 0 0 s1.toNatClampNeg (s2 + s3)) fun (σ1 : St) =>
  chk (inb x3 160) <|
  chk (inb x2 12480) <|
  nm (sJ σ1 300 0 0 x3.toNatClampNeg ((σ1.2 300 0 0 x3.toNatClampNeg) + (σ1.2 308 0 0 x2.toNatClampNeg))) fun (σ2 : St) =>
  some σ2
def fM_dayOf_200 (N : Nat) (x2 : Int32) (x3 : Int32) (x4 : Int32) (s1 : Int32) (s2 : Int32) (s3 : Int32) (σ : St) : Option St :=
  chk (inb s1 160) <|
  nm (sI σ 294 0 0 s1.toNatClampNeg (s2 + s3)) fun (σ1 : St) =>
  chk (inb x3 160) <|
  if x4 = 5 then
    fM_dayOf_220 N x2 x3 x3 (σ1.1 295 0 0 x3.toNatClampNeg) 1 σ1
  else
    fM_dayOf_220 N x2 x3 x3 (σ1.1 295 0 0 x3.toNatClampNeg) 0 σ1
def fM_dayOf_180 (N : Nat) (x2 : Int32) (x3 : Int32) (x4 : Int32) (s1 : Int32) (s2 : Int32) (s3 : Int32) (σ : St) : Option St :=
  chk (inb s1 160) <|
  nm (sI σ 293 0 0 s1.toNatClampNeg (s2 + s3)) fun (σ1 : St) =>
  chk (inb x3 160) <|
  if x4 = 4 then
    fM_dayOf_200 N x2 x3 x4 x3 (σ1.1 294 0 0 x3.toNatClampNeg) 1 σ1
  else
    fM_dayOf_200 N x2 x3 x4 x3 (σ1.1 294 0 0 x3.toNatClampNeg) 0 σ1
def fM_dayOf_160 (N : Nat) (x2 : Int32) (x3 : Int32) (x4 : Int32) (s1 : Int32) (s2 : Int32) (s3 : Int32) (σ : St) : Option St :=
  chk (inb s1 160) <|
  nm (sI σ 292 0 0 s1.toNatClampNeg (s2 + s3)) fun (σ1 : St) =>
  chk (inb x3 160) <|
  if x4 = 3 then
    fM_dayOf_180 N x2 x3 x4 x3 (σ1.1 293 0 0 x3.toNatClampNeg) 1 σ1
  else
    fM_dayOf_180 N x2 x3 x4 x3 (σ1.1 293 0 0 x3.toNatClampNeg) 0 σ1
def fM_dayOf_142 (N : Nat) (x2 : Int32) (x3 : Int32) (x4 : Int32) (σ : St) : Option St :=
  chk (inb x3 160) <|
  if x4 = 2 then
    fM_dayOf_160 N x2 x3 x4 x3 (σ.1 292 0 0 x3.toNatClampNeg) 1 σ
  else
    fM_dayOf_160 N x2 x3 x4 x3 (σ.1 292 0 0 x3.toNatClampNeg) 0 σ
def fM_dayOf_64 (N : Nat) (x1 : Int32) (x2 : Int32) (x3 : Int32) (s1 : Int32) (s2 : Int32) (σ : St) : Option St :=
  chk (inb s1 12480) <|
  nm (sI σ 306 0 0 s1.toNatClampNeg s2) fun (σ1 : St) =>
  if x3 = (-1) then
    chk (inb x1 20) <|
    if (σ1.1 276 0 0 x1.toNatClampNeg) = 0 then
      if (σ1.1 275 0 0 x1.toNatClampNeg) = 0 then
        fM_dayOf_105 N x2 9 σ1
      else
        fM_dayOf_105 N x2 7 σ1
    else
      fM_dayOf_105 N x2 8 σ1
  else
    bnd (fM_kindOf N x1 x3 σ1) fun r2 σ3 =>
    chk (inb x2 12480) <|
    nm (sI σ3 304 0 0 x2.toNatClampNeg r2) fun (σ4 : St) =>
    if r2 < 3 then
      fM_dayOf_142 N x2 x3 r2 σ4
    else
      if 5 < r2 then
        fM_dayOf_142 N x2 x3 r2 σ4
      else
        bn1 (fM_pay N x2 r2 σ4) fun σ5 =>
        fM_dayOf_142 N x2 x3 r2 σ5
def fM_dayOf (N : Nat) (x1 : Int32) (σ : St) : Option St :=
  nm ((((624 * x1) + (σ.1 269 0 0 0)) - 312)) fun (y1 : Int32) =>
  bn1 (fM_openOf N x1 σ) fun r2 =>
  nm (sI σ 268 0 0 0 x1) fun (σ3 : St) =>
  bn1 (fM_noOffer N σ3) fun σ4 =>
  chk (inb y1 12480) <|
  nm (sJ σ4 308 0 0 y1.toNatClampNeg 0) fun (σ5 : St) =>
  nm (sI σ5 305 0 0 y1.toNatClampNeg (-1)) fun (σ6 : St) =>
  if r2 = (-1) then
    fM_dayOf_64 N x1 y1 r2 y1 (-1) σ6
  else
    chk (inb r2 160) <|
    fM_dayOf_64 N x1 y1 r2 y1 (σ6.1 289 0 0 r2.toNatClampNeg) σ6
def fM_run_122 (N : Nat) (go12 : Int32 → Int32 → St → Option St) : Nat → Int32 → Int32 → Int32 → St → Option St
  | 0, _, _, _, _ => none
  | n+1, x1, x2, x4, σ =>
    if (σ.1 208 0 0 0) ≤ x4 then
      nm (sI σ 269 0 0 0 ((σ.1 269 0 0 0) + 1)) fun (σ1 : St) =>
      go12 x1 x2 σ1
    else
      bn1 (fM_dayOf N x4 σ) fun σ2 =>
      (fM_run_122 N go12 n) x1 x2 (x4 + 1) σ2
def fM_run_67 (N : Nat) (go12 : Int32 → Int32 → St → Option St) : Nat → Int32 → Int32 → Int32 → St → Option St
  | 0, _, _, _, _ => none
  | n+1, x1, x2, x4, σ =>
    if (σ.1 218 0 0 0) ≤ x4 then
      fM_run_122 N go12 N x1 x2 0 σ
    else
      chk (inb x4 160) <|
      if (σ.1 232 0 0 x4.toNatClampNeg) = (σ.1 269 0 0 0) then
        bn1 (fM_isKnown N x4 x1 σ) fun r1 =>
        if r1 = 0 then
          (fM_run_67 N go12 n) x1 x2 (x4 + 1) σ
        else
          bnd (fM_done0 N x4 σ) fun r2 σ3 =>
          nm (sI σ3 277 0 0 x4.toNatClampNeg (r2 &&& 1)) fun (σ4 : St) =>
          (fM_run_67 N go12 n) x1 x2 (x4 + 1) σ4
      else
        (fM_run_67 N go12 n) x1 x2 (x4 + 1) σ
def fM_run_63 (N : Nat) (go12 : Int32 → Int32 → St → Option St) (x1 : Int32) (x2 : Int32) (s1 : Int32) (s2 : Int32) (σ : St) : Option St :=
  chk (inb s1 624) <|
  nm (sI σ 307 0 0 s1.toNatClampNeg s2) fun (σ1 : St) =>
  fM_run_67 N go12 N x1 x2 0 σ1
def fM_run_12 (N : Nat) : Nat → Int32 → Int32 → St → Option St
  | 0, _, _, _ => none
  | n+1, x1, x2, σ =>
    if x2 < (σ.1 269 0 0 0) then
      nm (sI σ 269 0 0 0 x2) fun (σ1 : St) =>
      some σ1
    else
      bn1 (fM_tellLaw N (σ.1 269 0 0 0) x1 σ) fun σ2 =>
      nm ((σ2.1 264 0 0 0)) fun (y3 : Int32) =>
      if y3 = (-1) then
        fM_run_63 N (fM_run_12 N n) x1 x2 ((σ2.1 269 0 0 0) - 312) 0 σ2
      else
        chk (inb y3 408) <|
        fM_run_63 N (fM_run_12 N n) x1 x2 ((σ2.1 269 0 0 0) - 312) (σ2.1 240 0 0 y3.toNatClampNeg) σ2
def fM_run (N : Nat) (x1 : Int32) (x2 : Int32) (σ : St) : Option St :=
  bn1 (fM_beginRun N x1 σ) fun σ1 =>
  nm (sI σ1 269 0 0 0 312) fun (σ2 : St) =>
  fM_run_12 N N x1 x2 σ2
def fM_know_16 (N : Nat) (x1 : Int32) (σ : St) : Option St :=
  bn1 (fM_run N x1 x1 σ) fun σ1 =>
  nm (sI σ1 273 0 0 0 1) fun (σ2 : St) =>
  nm (sI σ2 274 0 0 0 x1) fun (σ3 : St) =>
  some σ3
def fM_know (N : Nat) (x1 : Int32) (σ : St) : Option St :=
  if (σ.1 273 0 0 0) = 0 then
    fM_know_16 N x1 σ
  else
    if (σ.1 274 0 0 0) = x1 then
      some σ
    else
      fM_know_16 N x1 σ
def fM_told_17 (N : Nat) (σ : St) : Option (Int32 × St) :=
  bnd (fM_fail N σ) fun r1 σ2 =>
  some (r1, σ2)
def fM_told (N : Nat) (x1 : Int32) (x2 : Int32) (σ : St) : Option (Int32 × St) :=
  nm (sI σ 204 0 0 0 0) fun (σ1 : St) =>
  if x1 < 0 then
    fM_told_17 N σ1
  else
    if x1 < (σ1.1 218 0 0 0) then
      if x2 = 0 then
        chk (inb x1 160) <|
        some ((σ1.1 229 0 0 x1.toNatClampNeg), σ1)
      else
      if x2 = 1 then
        chk (inb x1 160) <|
        some ((σ1.1 230 0 0 x1.toNatClampNeg), σ1)
      else
      if x2 = 2 then
        chk (inb x1 160) <|
        some ((σ1.1 231 0 0 x1.toNatClampNeg), σ1)
      else
      if x2 = 3 then
        chk (inb x1 160) <|
        some ((σ1.1 232 0 0 x1.toNatClampNeg), σ1)
      else
      if x2 = 4 then
        chk (inb x1 160) <|
        some ((σ1.1 233 0 0 x1.toNatClampNeg), σ1)
      else
      if x2 = 5 then
        chk (inb x1 160) <|
        some ((σ1.1 234 0 0 x1.toNatClampNeg), σ1)
      else
      if x2 = 6 then
        bn1 (fM_theDay N σ1) fun r2 =>
        bn1 (fM_know N r2 σ1) fun σ3 =>
        chk (inb x1 160) <|
        if (σ3.1 277 0 0 x1.toNatClampNeg) = 0 then
          some (0, σ3)
        else
          some (1, σ3)
      else
      bnd (fM_fail N σ1) fun r4 σ5 =>
      some (r4, σ5)
    else
      fM_told_17 N σ1
def fM_payUpTo_7 (N : Nat) : Nat → Int32 → Int32 → Int64 → Int32 → St → Option Int64
  | 0, _, _, _, _, _ => none
  | n+1, x1, x2, x3, x5, σ =>
    if x2 < x5 then
      some x3
    else
      chk (inb (((624 * x1) + x5) - 312) 12480) <|
      nm ((x3 + (σ.2 308 0 0 (((624 * x1) + x5) - 312).toNatClampNeg))) fun (y1 : Int64) =>
      (fM_payUpTo_7 N n) x1 x2 y1 (x5 + 1) σ
def fM_payUpTo (N : Nat) (x1 : Int32) (x2 : Int32) (σ : St) : Option Int64 :=
  fM_payUpTo_7 N N x1 x2 0 312 σ
def fM_settle_96 (N : Nat) (go43 : Int64 → Int32 → St → Option St) (go54 : Int64 → Int32 → Int32 → St → Option St) (x1 : Int64) (x3 : Int32) (x4 : Int32) (σ : St) : Option St :=
  chk (inb (x3 - 312) 624) <|
  chk (inb x4 20) <|
  if (((σ.1 307 0 0 (x3 - 312).toNatClampNeg) >>> ((σ.1 211 0 0 x4.toNatClampNeg) &&& 31)) &&& 1) = 1 then
    nm (sJ σ 313 0 0 0 ((σ.2 313 0 0 0) + x1)) fun (σ1 : St) =>
    go54 x1 x3 (x4 + 1) σ1
  else
    go54 x1 x3 (x4 + 1) σ
def fM_settle_54 (N : Nat) (go43 : Int64 → Int32 → St → Option St) : Nat → Int64 → Int32 → Int32 → St → Option St
  | 0, _, _, _, _ => none
  | n+1, x1, x3, x4, σ =>
    if (σ.1 208 0 0 0) ≤ x4 then
      go43 x1 (x3 + 1) σ
    else
      chk (inb (((624 * x4) + x3) - 312) 12480) <|
      nm ((σ.1 304 0 0 (((624 * x4) + x3) - 312).toNatClampNeg)) fun (y1 : Int32) =>
      if y1 = 7 then
        fM_settle_96 N go43 (fM_settle_54 N go43 n) x1 x3 x4 σ
      else
        if y1 = 6 then
          fM_settle_96 N go43 (fM_settle_54 N go43 n) x1 x3 x4 σ
        else
          (fM_settle_54 N go43 n) x1 x3 (x4 + 1) σ
def fM_settle_149 (N : Nat) : Nat → Int32 → St → Option St
  | 0, _, _ => none
  | n+1, x3, σ =>
    if (σ.1 208 0 0 0) ≤ x3 then
      nm (sJ σ 312 0 0 0 ((σ.2 312 0 0 0) + ((σ.2 313 0 0 0) - (σ.2 314 0 0 0)))) fun (σ1 : St) =>
      chk (inb (irem (σ1.1 315 0 0 0) 4) 4) <|
      nm (sJ σ1 311 0 0 (irem (σ1.1 315 0 0 0) 4).toNatClampNeg ((σ1.2 313 0 0 0) - (σ1.2 314 0 0 0))) fun (σ2 : St) =>
      nm (sI σ2 315 0 0 0 ((σ2.1 315 0 0 0) + 1)) fun (σ3 : St) =>
      some σ3
    else
      bn1 (fM_payUpTo N x3 (σ.1 205 0 0 0) σ) fun r4 =>
      chk (inb x3 20) <|
      nm ((r4 - (σ.2 309 0 0 x3.toNatClampNeg))) fun (y5 : Int64) =>
      bn1 (fMath_max_J N 0 (-y5) σ) fun r6 =>
      nm (sJ σ 310 0 0 x3.toNatClampNeg r6) fun (σ7 : St) =>
      if 0 < (lg_cmp y5 0) then
        nm (sJ σ7 309 0 0 x3.toNatClampNeg ((σ7.2 309 0 0 x3.toNatClampNeg) + y5)) fun (σ8 : St) =>
        nm (sJ σ8 314 0 0 0 ((σ8.2 314 0 0 0) + y5)) fun (σ9 : St) =>
        (fM_settle_149 N n) (x3 + 1) σ9
      else
        (fM_settle_149 N n) (x3 + 1) σ7
def fM_settle_43 (N : Nat) : Nat → Int64 → Int32 → St → Option St
  | 0, _, _, _ => none
  | n+1, x1, x3, σ =>
    if (σ.1 205 0 0 0) < x3 then
      nm (sJ σ 314 0 0 0 0) fun (σ1 : St) =>
      fM_settle_149 N N 0 σ1
    else
      fM_settle_54 N (fM_settle_43 N n) N x1 x3 0 σ
def fM_settle (N : Nat) (σ : St) : Option St :=
  bn1 (fM_know N (σ.1 205 0 0 0) σ) fun σ1 =>
  bn1 (fM_tellLaw N (σ1.1 205 0 0 0) (σ1.1 205 0 0 0) σ1) fun σ2 =>
  bn1 (fM_param N 6 σ2) fun r3 =>
  nm (r3.toInt64) fun (y4 : Int64) =>
  nm (sJ σ2 313 0 0 0 0) fun (σ5 : St) =>
  nm ((((σ5.1 205 0 0 0) - 6) + 1)) fun (y6 : Int32) =>
  fM_settle_43 N N y4 y6 σ5
def fM_days_27 (N : Nat) (σ : St) : Option (Int32 × St) :=
  bnd (fM_fail N σ) fun r1 σ2 =>
  some (r1, σ2)
def fM_days_54 (N : Nat) (go34 : Int32 → Int32 → St → Option (Int32 × St)) (x1 : Int32) (x2 : Int32) (σ : St) : Option (Int32 × St) :=
  nm (sI σ 205 0 0 0 ((σ.1 205 0 0 0) + 1)) fun (σ1 : St) =>
  go34 x1 (x2 + 1) σ1
def fM_days_34 (N : Nat) : Nat → Int32 → Int32 → St → Option (Int32 × St)
  | 0, _, _, _ => none
  | n+1, x1, x2, σ =>
    if x1 ≤ x2 then
      some ((σ.1 205 0 0 0), σ)
    else
      if (irem (σ.1 205 0 0 0) 6) = 5 then
        bn1 (fM_settle N σ) fun σ1 =>
        fM_days_54 N (fM_days_34 N n) x1 x2 σ1
      else
        fM_days_54 N (fM_days_34 N n) x1 x2 σ
def fM_days (N : Nat) (x1 : Int32) (σ : St) : Option (Int32 × St) :=
  nm (sI σ 204 0 0 0 0) fun (σ1 : St) =>
  if x1 < 0 then
    fM_days_27 N σ1
  else
    if 120 < x1 then
      fM_days_27 N σ1
    else
      if ((σ1.1 205 0 0 0) + x1) ≤ 935 then
        fM_days_34 N N x1 0 σ1
      else
        fM_days_27 N σ1
def fM_look_25 (N : Nat) (σ : St) : Option (Int32 × St) :=
  bnd (fM_fail N σ) fun r1 σ2 =>
  some (r1, σ2)
def fM_look_30 (N : Nat) (x1 : Int32) (σ : St) : Option (Int32 × St) :=
  nm ((σ.1 206 0 0 0)) fun (y1 : Int32) =>
  nm (sI σ 206 0 0 0 x1) fun (σ2 : St) =>
  some (y1, σ2)
def fM_look (N : Nat) (x1 : Int32) (σ : St) : Option (Int32 × St) :=
  nm (sI σ 204 0 0 0 0) fun (σ1 : St) =>
  if x1 = (-1) then
    fM_look_30 N x1 σ1
  else
    if x1 < 312 then
      fM_look_25 N σ1
    else
      if x1 ≤ (σ1.1 205 0 0 0) then
        fM_look_30 N x1 σ1
      else
        fM_look_25 N σ1
def fM_toInt (N : Nat) (x0 : Int64) (σ : St) : Option Int32 :=
  some x0.toInt32
def fM_day_37 (N : Nat) (σ : St) : Option (Int32 × St) :=
  bnd (fM_fail N σ) fun r1 σ2 =>
  some (r1, σ2)
def fM_day (N : Nat) (x1 : Int32) (x2 : Int32) (x3 : Int32) (σ : St) : Option (Int32 × St) :=
  nm (sI σ 204 0 0 0 0) fun (σ1 : St) =>
  bn1 (fM_isPerson N x1 σ1) fun r2 =>
  if r2 = 0 then
    fM_day_37 N σ1
  else
    if x2 < 312 then
      fM_day_37 N σ1
    else
      bn1 (fM_theDay N σ1) fun r3 =>
      if r3 < x2 then
        fM_day_37 N σ1
      else
        if x3 < 0 then
          fM_day_37 N σ1
        else
          if x3 ≤ 3 then
            bn1 (fM_theDay N σ1) fun r4 =>
            bn1 (fM_know N r4 σ1) fun σ5 =>
            nm ((((624 * x1) + x2) - 312)) fun (y6 : Int32) =>
            if x3 = 0 then
              chk (inb y6 12480) <|
              some ((σ5.1 304 0 0 y6.toNatClampNeg), σ5)
            else
              if x3 = 1 then
                chk (inb y6 12480) <|
                bn1 (fM_toInt N (σ5.2 308 0 0 y6.toNatClampNeg) σ5) fun r7 =>
                some (r7, σ5)
              else
                if x3 = 2 then
                  chk (inb y6 12480) <|
                  some ((σ5.1 305 0 0 y6.toNatClampNeg), σ5)
                else
                  chk (inb y6 12480) <|
                  some ((σ5.1 306 0 0 y6.toNatClampNeg), σ5)
          else
            fM_day_37 N σ1
def fM_claimAt_2 (N : Nat) : Nat → Int32 → Int32 → Int32 → St → Option Int32
  | 0, _, _, _, _ => none
  | n+1, x1, x2, x3, σ =>
    if (σ.1 286 0 0 0) ≤ x3 then
      some (-1)
    else
      chk (inb x3 160) <|
      if (σ.1 288 0 0 x3.toNatClampNeg) = x1 then
        if (σ.1 289 0 0 x3.toNatClampNeg) = x2 then
          some x3
        else
          (fM_claimAt_2 N n) x1 x2 (x3 + 1) σ
      else
        (fM_claimAt_2 N n) x1 x2 (x3 + 1) σ
def fM_claimAt (N : Nat) (x1 : Int32) (x2 : Int32) (σ : St) : Option Int32 :=
  fM_claimAt_2 N N x1 x2 0 σ
def fM_claim (N : Nat) (x1 : Int32) (x2 : Int32) (x3 : Int32) (σ : St) : Option (Int32 × St) :=
  nm (sI σ 204 0 0 0 0) fun (σ1 : St) =>
  bn1 (fM_isPerson N x1 σ1) fun r2 =>
  if r2 = 0 then
    bnd (fM_fail N σ1) fun r11 σ12 =>
    some (r11, σ12)
  else
    bn1 (fM_theDay N σ1) fun r3 =>
    bn1 (fM_know N r3 σ1) fun σ4 =>
    bn1 (fM_claimAt N x1 x2 σ4) fun r5 =>
    if r5 = (-1) then
      bnd (fM_fail N σ4) fun r9 σ10 =>
      some (r9, σ10)
    else
      if x3 = 0 then
        chk (inb r5 160) <|
        some ((σ4.1 290 0 0 r5.toNatClampNeg), σ4)
      else
      if x3 = 1 then
        chk (inb r5 160) <|
        some ((σ4.1 291 0 0 r5.toNatClampNeg), σ4)
      else
      if x3 = 2 then
        chk (inb r5 160) <|
        some ((σ4.1 292 0 0 r5.toNatClampNeg), σ4)
      else
      if x3 = 3 then
        chk (inb r5 160) <|
        some ((σ4.1 293 0 0 r5.toNatClampNeg), σ4)
      else
      if x3 = 4 then
        chk (inb r5 160) <|
        some ((σ4.1 294 0 0 r5.toNatClampNeg), σ4)
      else
      if x3 = 5 then
        chk (inb r5 160) <|
        some ((σ4.1 295 0 0 r5.toNatClampNeg), σ4)
      else
      if x3 = 6 then
        chk (inb r5 160) <|
        bn1 (fM_toInt N (σ4.2 300 0 0 r5.toNatClampNeg) σ4) fun r6 =>
        some (r6, σ4)
      else
      if x3 = 7 then
        chk (inb r5 160) <|
        some ((σ4.1 296 0 0 r5.toNatClampNeg), σ4)
      else
      if x3 = 8 then
        chk (inb r5 160) <|
        if (σ4.1 297 0 0 r5.toNatClampNeg) = (-1) then
          some (1, σ4)
        else
          some (0, σ4)
      else
      if x3 = 9 then
        chk (inb r5 160) <|
        some ((σ4.1 298 0 0 r5.toNatClampNeg), σ4)
      else
      if x3 = 10 then
        chk (inb r5 160) <|
        some ((σ4.1 299 0 0 r5.toNatClampNeg), σ4)
      else
      bnd (fM_fail N σ4) fun r7 σ8 =>
      some (r7, σ8)
def fM_nowToday (N : Nat) (σ : St) : Option St :=
  bn1 (fM_know N (σ.1 205 0 0 0) σ) fun σ1 =>
  nm (sI σ1 269 0 0 0 (σ1.1 205 0 0 0)) fun (σ2 : St) =>
  bn1 (fM_tellLaw N (σ2.1 205 0 0 0) (σ2.1 205 0 0 0) σ2) fun σ3 =>
  bn1 (fM_noOffer N σ3) fun σ4 =>
  some σ4
def fM_value_23 (N : Nat) (σ : St) : Option (Int64 × St) :=
  bnd (fM_fail N σ) fun r1 σ2 =>
  some (r1.toInt64, σ2)
def fM_value (N : Nat) (x1 : Int32) (x2 : Int32) (σ : St) : Option (Int64 × St) :=
  nm (sI σ 204 0 0 0 0) fun (σ1 : St) =>
  bn1 (fM_isPerson N x1 σ1) fun r2 =>
  if r2 = 0 then
    fM_value_23 N σ1
  else
    if x2 < 0 then
      fM_value_23 N σ1
    else
      if x2 ≤ 8 then
        bn1 (fM_nowToday N σ1) fun σ3 =>
        nm (sI σ3 268 0 0 0 x1) fun (σ4 : St) =>
        bn1 (fM_valueOf N (8 + x2) σ4) fun r5 =>
        some (r5, σ4)
      else
        fM_value_23 N σ1
def fM_law_48 (N : Nat) (σ : St) : Option (Int32 × St) :=
  bnd (fM_fail N σ) fun r1 σ2 =>
  some (r1, σ2)
def fM_law_32 (N : Nat) (x1 : Int32) (x2 : Int32) (s0 : Int32) (σ : St) : Option (Int32 × St) :=
  if s0 = 0 then
    fM_law_48 N σ
  else
    if x2 < 0 then
      fM_law_48 N σ
    else
      if x2 ≤ 935 then
        bn1 (fM_theDay N σ) fun r1 =>
        bn1 (fM_tellLaw N x2 r1 σ) fun σ2 =>
        if 8 ≤ x1 then
          bn1 (fM_isInsured N (x1 - 10) σ2) fun r3 =>
          if r3 = 0 then
            some (0, σ2)
          else
            some (1, σ2)
        else
          bn1 (fM_param N x1 σ2) fun r4 =>
          some (r4, σ2)
      else
        fM_law_48 N σ
def fM_law_27 (N : Nat) (x1 : Int32) (x2 : Int32) (σ : St) : Option (Int32 × St) :=
  fM_law_32 N x1 x2 1 σ
def fM_law_31 (N : Nat) (x1 : Int32) (x2 : Int32) (σ : St) : Option (Int32 × St) :=
  fM_law_32 N x1 x2 0 σ
def fM_law_15 (N : Nat) (x1 : Int32) (x2 : Int32) (σ : St) : Option (Int32 × St) :=
  if x1 < 10 then
    fM_law_31 N x1 x2 σ
  else
    if 17 < x1 then
      fM_law_31 N x1 x2 σ
    else
      fM_law_27 N x1 x2 σ
def fM_law (N : Nat) (x1 : Int32) (x2 : Int32) (σ : St) : Option (Int32 × St) :=
  nm (sI σ 204 0 0 0 0) fun (σ1 : St) =>
  if x1 < 0 then
    fM_law_15 N x1 x2 σ1
  else
    if x1 < 8 then
      fM_law_27 N x1 x2 σ1
    else
      fM_law_15 N x1 x2 σ1
def fM_paid_22 (N : Nat) (σ : St) : Option (Int32 × St) :=
  bnd (fM_fail N σ) fun r1 σ2 =>
  some (r1, σ2)
def fM_paid_51 (N : Nat) (s0 : Int64) (σ : St) : Option (Int32 × St) :=
  bn1 (fM_toInt N s0 σ) fun r1 =>
  some (r1, σ)
def fM_paid (N : Nat) (x1 : Int32) (x2 : Int32) (σ : St) : Option (Int32 × St) :=
  nm (sI σ 204 0 0 0 0) fun (σ1 : St) =>
  bn1 (fM_isPerson N x1 σ1) fun r2 =>
  if r2 = 0 then
    fM_paid_22 N σ1
  else
    if x2 < 0 then
      fM_paid_22 N σ1
    else
      if x2 ≤ 2 then
        if 2 ≤ x2 then
          bn1 (fM_theDay N σ1) fun r3 =>
          bn1 (fM_know N r3 σ1) fun σ4 =>
          bn1 (fM_theDay N σ4) fun r5 =>
          bn1 (fM_payUpTo N x1 r5 σ4) fun r6 =>
          bn1 (fM_toInt N r6 σ4) fun r7 =>
          some (r7, σ4)
        else
          if x2 = 0 then
            chk (inb x1 20) <|
            fM_paid_51 N (σ1.2 309 0 0 x1.toNatClampNeg) σ1
          else
            chk (inb x1 20) <|
            fM_paid_51 N (σ1.2 310 0 0 x1.toNatClampNeg) σ1
      else
        fM_paid_22 N σ1
def fM_lasts_20 (N : Nat) : Nat → Int32 → Int64 → Int32 → St → Option Int32
  | 0, _, _, _, _ => none
  | n+1, x1, x2, x4, σ =>
    if x1 ≤ x4 then
      bn1 (fMath_floorDiv_J N x2 x1.toInt64 σ) fun r1 =>
      if 0 ≤ (lg_cmp (σ.2 312 0 0 0) 0) then
        if (lg_cmp r1 0) < 0 then
          chk (¬ (-r1) = 0) <|
          bn1 (fM_toInt N ((σ.2 312 0 0 0) / (-r1)) σ) fun r2 =>
          some (r2 + 1)
        else
          some (-1)
      else
        some 0
    else
      chk (inb x4 4) <|
      nm ((x2 + (σ.2 311 0 0 x4.toNatClampNeg))) fun (y3 : Int64) =>
      (fM_lasts_20 N n) x1 y3 (x4 + 1) σ
def fM_lasts (N : Nat) (σ : St) : Option Int32 :=
  bn1 (fMath_min_I N 4 (σ.1 315 0 0 0) σ) fun r1 =>
  if r1 = 0 then
    some (-1)
  else
    fM_lasts_20 N N r1 0 0 σ
def fM_fund (N : Nat) (x1 : Int32) (σ : St) : Option (Int32 × St) :=
  nm (sI σ 204 0 0 0 0) fun (σ1 : St) =>
  if x1 = 0 then
    bn1 (fM_toInt N (σ1.2 312 0 0 0) σ1) fun r2 =>
    some (r2, σ1)
  else
  if x1 = 1 then
    bn1 (fM_toInt N (σ1.2 313 0 0 0) σ1) fun r3 =>
    some (r3, σ1)
  else
  if x1 = 2 then
    bn1 (fM_toInt N (σ1.2 314 0 0 0) σ1) fun r4 =>
    some (r4, σ1)
  else
  if x1 = 3 then
    bn1 (fM_lasts N σ1) fun r5 =>
    some (r5, σ1)
  else
  bnd (fM_fail N σ1) fun r6 σ7 =>
  some (r6, σ7)
def fM_vacancy_57 (N : Nat) (x1 : Int32) (x2 : Int32) (x3 : Int32) (x4 : Int32) (s0 : Int32) (σ : St) : Option (Int32 × St) :=
  if (σ.1 316 0 0 0) = 24 then
    some ((-1), σ)
  else
    if s0 = 0 then
      some ((-1), σ)
    else
      chk (inb (σ.1 316 0 0 0) 24) <|
      nm (sI σ 318 0 0 (σ.1 316 0 0 0).toNatClampNeg x1) fun (σ1 : St) =>
      chk (inb (σ1.1 316 0 0 0) 24) <|
      nm (sI σ1 319 0 0 (σ1.1 316 0 0 0).toNatClampNeg x2) fun (σ2 : St) =>
      chk (inb (σ2.1 316 0 0 0) 24) <|
      nm (sI σ2 320 0 0 (σ2.1 316 0 0 0).toNatClampNeg x3) fun (σ3 : St) =>
      chk (inb (σ3.1 316 0 0 0) 24) <|
      nm (sI σ3 321 0 0 (σ3.1 316 0 0 0).toNatClampNeg x4) fun (σ4 : St) =>
      chk (inb (σ4.1 316 0 0 0) 24) <|
      nm (sI σ4 322 0 0 (σ4.1 316 0 0 0).toNatClampNeg (σ4.1 205 0 0 0)) fun (σ5 : St) =>
      nm (sI σ5 316 0 0 0 ((σ5.1 316 0 0 0) + 1)) fun (σ6 : St) =>
      some (((σ6.1 316 0 0 0) - 1), σ6)
def fM_vacancy_56 (N : Nat) (x1 : Int32) (x2 : Int32) (x3 : Int32) (x4 : Int32) (σ : St) : Option (Int32 × St) :=
  fM_vacancy_57 N x1 x2 x3 x4 0 σ
def fM_vacancy (N : Nat) (x1 : Int32) (x2 : Int32) (x3 : Int32) (x4 : Int32) (σ : St) : Option (Int32 × St) :=
  nm (sI σ 204 0 0 0 0) fun (σ1 : St) =>
  if x1 < 0 then
    fM_vacancy_56 N x1 x2 x3 x4 σ1
  else
    if (σ1.1 207 0 0 0) ≤ x1 then
      fM_vacancy_56 N x1 x2 x3 x4 σ1
    else
      if x2 < 0 then
        fM_vacancy_56 N x1 x2 x3 x4 σ1
      else
        if 7 < x2 then
          fM_vacancy_56 N x1 x2 x3 x4 σ1
        else
          if x3 < 1 then
            fM_vacancy_56 N x1 x2 x3 x4 σ1
          else
            if 999 < x3 then
              fM_vacancy_56 N x1 x2 x3 x4 σ1
            else
              if x4 < 0 then
                fM_vacancy_56 N x1 x2 x3 x4 σ1
              else
                if 999 < x4 then
                  fM_vacancy_56 N x1 x2 x3 x4 σ1
                else
                  fM_vacancy_57 N x1 x2 x3 x4 1 σ1
def fM_isVacancy (N : Nat) (x1 : Int32) (σ : St) : Option Int32 :=
  if x1 < 0 then
    some 0
  else
    if (σ.1 316 0 0 0) ≤ x1 then
      some 0
    else
      some 1
def fM_knownFrom (N : Nat) (x1 : Int32) (x2 : Int32) (σ : St) : Option Int32 :=
  chk (inb x1 24) <|
  bn1 (fM_milesOf N (σ.1 318 0 0 x1.toNatClampNeg) x2 σ) fun r1 =>
  some ((σ.1 322 0 0 x1.toNatClampNeg) + ((r1 + 49) / 50))
def fM_known_34 (N : Nat) (σ : St) : Option (Int32 × St) :=
  bnd (fM_fail N σ) fun r1 σ2 =>
  some (r1, σ2)
def fM_known (N : Nat) (x1 : Int32) (x2 : Int32) (σ : St) : Option (Int32 × St) :=
  nm (sI σ 204 0 0 0 0) fun (σ1 : St) =>
  bn1 (fM_isVacancy N x1 σ1) fun r2 =>
  if r2 = 0 then
    fM_known_34 N σ1
  else
    if x2 < 0 then
      fM_known_34 N σ1
    else
      if (σ1.1 207 0 0 0) ≤ x2 then
        fM_known_34 N σ1
      else
        bn1 (fM_knownFrom N x1 x2 σ1) fun r3 =>
        some (r3, σ1)
def fM_mayBe (N : Nat) (x1 : Int32) (x2 : Int32) (σ : St) : Option Int32 :=
  bn1 (fM_openOf N x1 σ) fun r1 =>
  if r1 = (-1) then
    some 0
  else
    chk (inb x2 24) <|
    if (σ.1 323 0 0 x2.toNatClampNeg) = 0 then
      chk (inb x1 20) <|
      bn1 (fM_knownFrom N x2 (σ.1 213 0 0 x1.toNatClampNeg) σ) fun r2 =>
      if (σ.1 205 0 0 0) < r2 then
        some 0
      else
        some 1
    else
      some 0
def fM_failing_39 (N : Nat) (go19 : Int32 → Int32 → Int32 → St → Option (Int32 × St)) : Nat → Int32 → Int32 → Int32 → Int32 → Int32 → St → Option (Int32 × St)
  | 0, _, _, _, _, _, _ => none
  | n+1, x3, x4, x5, x6, x7, σ =>
    chk (inb x5 17) <|
    chk (inb (σ.1 262 0 0 x5.toNatClampNeg) 17) <|
    if (σ.1 238 0 0 (σ.1 262 0 0 x5.toNatClampNeg).toNatClampNeg) ≤ x7 then
      go19 x3 x4 (x5 + 1) σ
    else
      nm (((24 * (σ.1 262 0 0 x5.toNatClampNeg)) + x7)) fun (y1 : Int32) =>
      chk (inb y1 408) <|
      if (σ.1 239 0 0 y1.toNatClampNeg) = 5 then
        if x3 = (-1) then
          bnd (fM_told0 N y1 σ) fun r2 σ3 =>
          if (lg_cmp r2 0) = 0 then
            (fM_failing_39 N go19 n) x6 1 x5 (x6 + 1) (x7 + 1) σ3
          else
            (fM_failing_39 N go19 n) x3 1 x5 (x6 + 1) (x7 + 1) σ3
        else
          (fM_failing_39 N go19 n) x3 1 x5 (x6 + 1) (x7 + 1) σ
      else
        (fM_failing_39 N go19 n) x3 x4 x5 x6 (x7 + 1) σ
def fM_failing_122 (N : Nat) (x3 : Int32) (σ : St) : Option (Int32 × St) :=
  bn1 (fM_noOffer N σ) fun σ1 =>
  some (x3, σ1)
def fM_failing_19 (N : Nat) : Nat → Int32 → Int32 → Int32 → St → Option (Int32 × St)
  | 0, _, _, _, _ => none
  | n+1, x3, x4, x5, σ =>
    if (σ.1 263 0 0 0) ≤ x5 then
      fM_failing_122 N x3 σ
    else
      if x4 = 0 then
        fM_failing_39 N (fM_failing_19 N n) N x3 x4 x5 0 0 σ
      else
        fM_failing_122 N x3 σ
def fM_failing (N : Nat) (x1 : Int32) (x2 : Int32) (σ : St) : Option (Int32 × St) :=
  nm (sI σ 268 0 0 0 x1) fun (σ1 : St) =>
  bn1 (fM_takeUp N x1 x2 σ1) fun σ2 =>
  fM_failing_19 N N (-1) 0 0 σ2
def fM_offer_21 (N : Nat) (σ : St) : Option (Int32 × St) :=
  bnd (fM_fail N σ) fun r1 σ2 =>
  some (r1, σ2)
def fM_offer_111 (N : Nat) (s1 : Int32) (s2 : Int32) (σ : St) : Option (Int32 × St) :=
  chk (inb s1 60) <|
  nm (sI σ 324 0 0 s1.toNatClampNeg (s2 &&& 1)) fun (σ1 : St) =>
  nm (sI σ1 317 0 0 0 ((σ1.1 317 0 0 0) + 1)) fun (σ2 : St) =>
  some (((σ2.1 317 0 0 0) - 1), σ2)
def fM_offer (N : Nat) (x1 : Int32) (x2 : Int32) (σ : St) : Option (Int32 × St) :=
  nm (sI σ 204 0 0 0 0) fun (σ1 : St) =>
  bn1 (fM_isPerson N x1 σ1) fun r2 =>
  if r2 = 0 then
    fM_offer_21 N σ1
  else
    bn1 (fM_isVacancy N x2 σ1) fun r3 =>
    if r3 = 0 then
      fM_offer_21 N σ1
    else
      bn1 (fM_nowToday N σ1) fun σ4 =>
      if (σ4.1 317 0 0 0) = 60 then
        some ((-1), σ4)
      else
        bn1 (fM_mayBe N x1 x2 σ4) fun r5 =>
        if r5 = 0 then
          some ((-1), σ4)
        else
          chk (inb (σ4.1 317 0 0 0) 60) <|
          nm (sI σ4 325 0 0 (σ4.1 317 0 0 0).toNatClampNeg x1) fun (σ6 : St) =>
          chk (inb (σ6.1 317 0 0 0) 60) <|
          nm (sI σ6 326 0 0 (σ6.1 317 0 0 0).toNatClampNeg x2) fun (σ7 : St) =>
          bnd (fM_failing N x1 x2 σ7) fun r8 σ9 =>
          chk (inb (σ7.1 317 0 0 0) 60) <|
          nm (sI σ9 327 0 0 (σ7.1 317 0 0 0).toNatClampNeg r8) fun (σ10 : St) =>
          chk (inb (σ10.1 317 0 0 0) 60) <|
          if (σ10.1 327 0 0 (σ10.1 317 0 0 0).toNatClampNeg) = (-1) then
            fM_offer_111 N (σ10.1 317 0 0 0) 1 σ10
          else
            fM_offer_111 N (σ10.1 317 0 0 0) 0 σ10
def fM_offerOf_17 (N : Nat) (σ : St) : Option (Int32 × St) :=
  bnd (fM_fail N σ) fun r1 σ2 =>
  some (r1, σ2)
def fM_offerOf (N : Nat) (x1 : Int32) (x2 : Int32) (σ : St) : Option (Int32 × St) :=
  nm (sI σ 204 0 0 0 0) fun (σ1 : St) =>
  if x1 < 0 then
    fM_offerOf_17 N σ1
  else
    if x1 < (σ1.1 317 0 0 0) then
      if x2 = 0 then
        chk (inb x1 60) <|
        some ((σ1.1 325 0 0 x1.toNatClampNeg), σ1)
      else
      if x2 = 1 then
        chk (inb x1 60) <|
        some ((σ1.1 326 0 0 x1.toNatClampNeg), σ1)
      else
      if x2 = 2 then
        chk (inb x1 60) <|
        if (σ1.1 324 0 0 x1.toNatClampNeg) = 0 then
          some (0, σ1)
        else
          some (1, σ1)
      else
      if x2 = 3 then
        chk (inb x1 60) <|
        some ((σ1.1 327 0 0 x1.toNatClampNeg), σ1)
      else
      if x2 = 4 then
        chk (inb x1 60) <|
        some ((σ1.1 328 0 0 x1.toNatClampNeg), σ1)
      else
      bnd (fM_fail N σ1) fun r2 σ3 =>
      some (r2, σ3)
    else
      fM_offerOf_17 N σ1
def fM_answer_17 (N : Nat) (σ : St) : Option (Int32 × St) :=
  bnd (fM_fail N σ) fun r1 σ2 =>
  some (r1, σ2)
def fM_answer_89 (N : Nat) (x1 : Int32) (x2 : Int32) (x3 : Int32) (σ : St) : Option (Int32 × St) :=
  if x2 = 0 then
    chk (inb x1 60) <|
    bnd (fM_note N 7 (σ.1 325 0 0 x1.toNatClampNeg) x1 (σ.1 205 0 0 0) σ) fun r1 σ2 =>
    some (r1, σ2)
  else
    chk (inb x1 60) <|
    chk (inb x3 24) <|
    bnd (fM_note N 1 (σ.1 325 0 0 x1.toNatClampNeg) (σ.1 320 0 0 x3.toNatClampNeg) (σ.1 205 0 0 0) σ) fun r3 σ4 =>
    some (r3, σ4)
def fM_answer_77 (N : Nat) (x1 : Int32) (x2 : Int32) (x3 : Int32) (s1 : Int32) (s2 : Int32) (σ : St) : Option (Int32 × St) :=
  chk (inb s1 60) <|
  nm (sI σ 328 0 0 s1.toNatClampNeg s2) fun (σ1 : St) =>
  if x2 = 0 then
    fM_answer_89 N x1 x2 x3 σ1
  else
    chk (inb x3 24) <|
    nm (sI σ1 323 0 0 x3.toNatClampNeg (1 &&& 1)) fun (σ2 : St) =>
    fM_answer_89 N x1 x2 x3 σ2
def fM_answer_51 (N : Nat) (x1 : Int32) (x2 : Int32) (x3 : Int32) (σ : St) : Option (Int32 × St) :=
  if (σ.1 218 0 0 0) = 160 then
    some ((-1), σ)
  else
    if x2 = 0 then
      fM_answer_77 N x1 x2 x3 x1 2 σ
    else
      fM_answer_77 N x1 x2 x3 x1 1 σ
def fM_answer (N : Nat) (x1 : Int32) (x2 : Int32) (σ : St) : Option (Int32 × St) :=
  nm (sI σ 204 0 0 0 0) fun (σ1 : St) =>
  if x1 < 0 then
    fM_answer_17 N σ1
  else
    if x1 < (σ1.1 317 0 0 0) then
      chk (inb x1 60) <|
      nm ((σ1.1 326 0 0 x1.toNatClampNeg)) fun (y2 : Int32) =>
      if (σ1.1 328 0 0 x1.toNatClampNeg) = 0 then
        if x2 = 0 then
          fM_answer_51 N x1 x2 y2 σ1
        else
          chk (inb y2 24) <|
          if (σ1.1 323 0 0 y2.toNatClampNeg) = 0 then
            fM_answer_51 N x1 x2 y2 σ1
          else
            some ((-1), σ1)
      else
        some ((-1), σ1)
    else
      fM_answer_17 N σ1
def fM_tellGains_97 (N : Nat) (go6 : Int32 → St → Option St) (go16 : Int32 → Int32 → St → Option St) (x1 : Int32) (x2 : Int32) (s1 : Int32) (s2 : Int32) (σ : St) : Option St :=
  chk (inb s1 480) <|
  nm (sI σ 329 0 0 s1.toNatClampNeg s2) fun (σ1 : St) =>
  go16 x1 (x2 + 1) σ1
def fM_tellGains_48 (N : Nat) (go6 : Int32 → St → Option St) (go16 : Int32 → Int32 → St → Option St) (x1 : Int32) (x2 : Int32) (s0 : Int32) (σ : St) : Option St :=
  if s0 = 0 then
    fM_tellGains_97 N go6 go16 x1 x2 ((24 * x1) + x2) 0 σ
  else
    chk (inb x2 24) <|
    chk (inb x1 20) <|
    bn1 (fM_milesOf N (σ.1 213 0 0 x1.toNatClampNeg) (σ.1 318 0 0 x2.toNatClampNeg) σ) fun r1 =>
    bn1 (fMath_max_I N 0 ((σ.1 321 0 0 x2.toNatClampNeg) - (r1 / 10)) σ) fun r2 =>
    fM_tellGains_97 N go6 go16 x1 x2 ((24 * x1) + x2) r2 σ
def fM_tellGains_47 (N : Nat) (go6 : Int32 → St → Option St) (go16 : Int32 → Int32 → St → Option St) (x1 : Int32) (x2 : Int32) (σ : St) : Option St :=
  fM_tellGains_48 N go6 go16 x1 x2 0 σ
def fM_tellGains_16 (N : Nat) (go6 : Int32 → St → Option St) : Nat → Int32 → Int32 → St → Option St
  | 0, _, _, _ => none
  | n+1, x1, x2, σ =>
    if (σ.1 316 0 0 0) ≤ x2 then
      go6 (x1 + 1) σ
    else
      bn1 (fM_mayBe N x1 x2 σ) fun r1 =>
      if r1 = 0 then
        fM_tellGains_47 N go6 (fM_tellGains_16 N go6 n) x1 x2 σ
      else
        bnd (fM_failing N x1 x2 σ) fun r2 σ3 =>
        if r2 = (-1) then
          fM_tellGains_48 N go6 (fM_tellGains_16 N go6 n) x1 x2 1 σ3
        else
          fM_tellGains_47 N go6 (fM_tellGains_16 N go6 n) x1 x2 σ3
def fM_tellGains_6 (N : Nat) : Nat → Int32 → St → Option St
  | 0, _, _ => none
  | n+1, x1, σ =>
    if (σ.1 208 0 0 0) ≤ x1 then
      some σ
    else
      fM_tellGains_16 N (fM_tellGains_6 N n) N x1 0 σ
def fM_tellGains (N : Nat) (σ : St) : Option St :=
  bn1 (fM_nowToday N σ) fun σ1 =>
  fM_tellGains_6 N N 0 σ1
def fM_holds_2 (N : Nat) : Nat → Int32 → Int32 → St → Option Int32
  | 0, _, _, _ => none
  | n+1, x1, x2, σ =>
    if (σ.1 316 0 0 0) ≤ x2 then
      some (-1)
    else
      chk (inb x2 24) <|
      if (σ.1 334 0 0 x2.toNatClampNeg) = x1 then
        some x2
      else
        (fM_holds_2 N n) x1 (x2 + 1) σ
def fM_holds (N : Nat) (x1 : Int32) (σ : St) : Option Int32 :=
  fM_holds_2 N N x1 0 σ
def fM_gainAt (N : Nat) (x1 : Int32) (x2 : Int32) (x3 : Int32) (σ : St) : Option Int32 :=
  if (σ.1 316 0 0 0) ≤ x2 then
    some 0
  else
    if ((x3 >>> (x2 &&& 31)) &&& 1) = 0 then
      chk (inb ((24 * x1) + x2) 480) <|
      some (σ.1 329 0 0 ((24 * x1) + x2).toNatClampNeg)
    else
      some 0
def fM_betterBy_57 (N : Nat) (go34 : Int32 → Int32 → St → Option (Int32 × St)) : Nat → Int32 → Int32 → Int32 → St → Option (Int32 × St)
  | 0, _, _, _, _ => none
  | n+1, x2, x3, x4, σ =>
    if (σ.1 316 0 0 0) ≤ x4 then
      go34 x2 (x3 + 1) σ
    else
      bn1 (fM_gainAt N x3 x4 x2 σ) fun r1 =>
      chk (inb x4 24) <|
      if r1 ≤ (σ.1 335 0 0 x4.toNatClampNeg) then
        (fM_betterBy_57 N go34 n) x2 x3 (x4 + 1) σ
      else
        if r1 = 0 then
          (fM_betterBy_57 N go34 n) x2 x3 (x4 + 1) σ
        else
          nm (sI σ 335 0 0 x4.toNatClampNeg r1) fun (σ2 : St) =>
          nm (sI σ2 336 0 0 x4.toNatClampNeg x3) fun (σ3 : St) =>
          (fM_betterBy_57 N go34 n) x2 x3 (x4 + 1) σ3
def fM_betterBy_185 (N : Nat) (go130 : Int32 → Int32 → Int32 → St → Option (Int32 × St)) (go146 : Int32 → Int32 → Int32 → Int32 → St → Option (Int32 × St)) : Nat → Int32 → Int32 → Int32 → Int32 → Int32 → St → Option (Int32 × St)
  | 0, _, _, _, _, _, _ => none
  | n+1, x2, x3, x4, x5, x6, σ =>
    if (σ.1 316 0 0 0) ≤ x6 then
      go146 x2 x3 x4 (x5 + 1) σ
    else
      chk (inb x5 24) <|
      bn1 (fM_gainAt N (σ.1 334 0 0 x5.toNatClampNeg) x6 x2 σ) fun r1 =>
      if x6 = x5 then
        (fM_betterBy_185 N go130 go146 n) x2 x3 x4 x5 (x6 + 1) σ
      else
        if r1 = 0 then
          (fM_betterBy_185 N go130 go146 n) x2 x3 x4 x5 (x6 + 1) σ
        else
          bn1 (fM_gainAt N (σ.1 334 0 0 x5.toNatClampNeg) x5 x2 σ) fun r2 =>
          nm ((((σ.1 335 0 0 x5.toNatClampNeg) - r2) + r1)) fun (y3 : Int32) =>
          chk (inb x6 24) <|
          if (σ.1 335 0 0 x6.toNatClampNeg) < y3 then
            nm (sI σ 335 0 0 x6.toNatClampNeg y3) fun (σ4 : St) =>
            nm (sI σ4 336 0 0 x6.toNatClampNeg (σ4.1 334 0 0 x5.toNatClampNeg)) fun (σ5 : St) =>
            (fM_betterBy_185 N go130 go146 n) x2 1 x4 x5 (x6 + 1) σ5
          else
            (fM_betterBy_185 N go130 go146 n) x2 x3 x4 x5 (x6 + 1) σ
def fM_betterBy_146 (N : Nat) (go130 : Int32 → Int32 → Int32 → St → Option (Int32 × St)) : Nat → Int32 → Int32 → Int32 → Int32 → St → Option (Int32 × St)
  | 0, _, _, _, _, _ => none
  | n+1, x2, x3, x4, x5, σ =>
    if (σ.1 316 0 0 0) ≤ x5 then
      go130 x2 x3 (x4 + 1) σ
    else
      chk (inb x5 24) <|
      if (σ.1 334 0 0 x5.toNatClampNeg) = (-1) then
        (fM_betterBy_146 N go130 n) x2 x3 x4 (x5 + 1) σ
      else
        if (-1000000) < (σ.1 335 0 0 x5.toNatClampNeg) then
          fM_betterBy_185 N go130 (fM_betterBy_146 N go130 n) N x2 x3 x4 x5 0 σ
        else
          (fM_betterBy_146 N go130 n) x2 x3 x4 (x5 + 1) σ
def fM_betterBy_369 (N : Nat) (go316 : Int32 → Int32 → St → Option (Int32 × St)) (x5 : Int32) (σ : St) : Option (Int32 × St) :=
  go316 x5 (x5 + 1) σ
def fM_betterBy_409 (N : Nat) : Nat → Int32 → Int32 → Int32 → St → Option (Int32 × St)
  | 0, _, _, _, _ => none
  | n+1, x5, x6, x7, σ =>
    if x7 = (-1) then
      some (x5, σ)
    else
      bn1 (fM_holds N x7 σ) fun r1 =>
      chk (inb x6 24) <|
      nm (sI σ 334 0 0 x6.toNatClampNeg x7) fun (σ2 : St) =>
      if r1 = (-1) then
        some (x5, σ2)
      else
        chk (inb r1 24) <|
        nm ((σ2.1 336 0 0 r1.toNatClampNeg)) fun (y3 : Int32) =>
        (fM_betterBy_409 N n) x5 r1 y3 σ2
def fM_betterBy_316 (N : Nat) : Nat → Int32 → Int32 → St → Option (Int32 × St)
  | 0, _, _, _ => none
  | n+1, x4, x5, σ =>
    if (σ.1 316 0 0 0) ≤ x5 then
      if x4 = (-1) then
        some (0, σ)
      else
        chk (inb x4 24) <|
        nm ((σ.1 335 0 0 x4.toNatClampNeg)) fun (y1 : Int32) =>
        nm ((σ.1 336 0 0 x4.toNatClampNeg)) fun (y2 : Int32) =>
        fM_betterBy_409 N N y1 x4 y2 σ
    else
      chk (inb x5 24) <|
      if (σ.1 334 0 0 x5.toNatClampNeg) = (-1) then
        if (σ.1 335 0 0 x5.toNatClampNeg) ≤ 0 then
          (fM_betterBy_316 N n) x4 (x5 + 1) σ
        else
          if x4 = (-1) then
            fM_betterBy_369 N (fM_betterBy_316 N n) x5 σ
          else
            chk (inb x4 24) <|
            if (σ.1 335 0 0 x5.toNatClampNeg) ≤ (σ.1 335 0 0 x4.toNatClampNeg) then
              (fM_betterBy_316 N n) x4 (x5 + 1) σ
            else
              fM_betterBy_369 N (fM_betterBy_316 N n) x5 σ
      else
        (fM_betterBy_316 N n) x4 (x5 + 1) σ
def fM_betterBy_310 (N : Nat) (σ : St) : Option (Int32 × St) :=
  fM_betterBy_316 N N (-1) 0 σ
def fM_betterBy_130 (N : Nat) : Nat → Int32 → Int32 → Int32 → St → Option (Int32 × St)
  | 0, _, _, _, _ => none
  | n+1, x2, x3, x4, σ =>
    if 24 ≤ x4 then
      fM_betterBy_310 N σ
    else
      if x3 = 0 then
        fM_betterBy_310 N σ
      else
        fM_betterBy_146 N (fM_betterBy_130 N n) N x2 0 x4 0 σ
def fM_betterBy_34 (N : Nat) : Nat → Int32 → Int32 → St → Option (Int32 × St)
  | 0, _, _, _ => none
  | n+1, x2, x3, σ =>
    if (σ.1 208 0 0 0) ≤ x3 then
      fM_betterBy_130 N N x2 1 0 σ
    else
      bn1 (fM_holds N x3 σ) fun r1 =>
      if r1 = (-1) then
        fM_betterBy_57 N (fM_betterBy_34 N n) N x2 x3 0 σ
      else
        (fM_betterBy_34 N n) x2 (x3 + 1) σ
def fM_betterBy_2 (N : Nat) : Nat → Int32 → Int32 → Int32 → St → Option (Int32 × St)
  | 0, _, _, _, _ => none
  | n+1, x1, x2, x3, σ =>
    if (σ.1 316 0 0 0) ≤ x3 then
      fM_betterBy_34 N N x2 x1 σ
    else
      chk (inb x3 24) <|
      nm (sI σ 335 0 0 x3.toNatClampNeg (-1000000)) fun (σ1 : St) =>
      nm (sI σ1 336 0 0 x3.toNatClampNeg (-1)) fun (σ2 : St) =>
      (fM_betterBy_2 N n) x1 x2 (x3 + 1) σ2
def fM_betterBy (N : Nat) (x1 : Int32) (x2 : Int32) (σ : St) : Option (Int32 × St) :=
  fM_betterBy_2 N N x1 x2 0 σ
def fM_mostFrom_66 (N : Nat) (go29 : Int32 → Int32 → Int32 → Int32 → Int32 → St → Option (Int32 × St)) (x1 : Int32) (x2 : Int32) (x3 : Int32) (x5 : Int32) (s0 : Int32) (σ : St) : Option (Int32 × St) :=
  go29 x1 x2 x3 s0 (x5 + 1) σ
def fM_mostFrom_29 (N : Nat) : Nat → Int32 → Int32 → Int32 → Int32 → Int32 → St → Option (Int32 × St)
  | 0, _, _, _, _, _, _ => none
  | n+1, x1, x2, x3, x4, x5, σ =>
    if (σ.1 208 0 0 0) ≤ x5 then
      some (x3, σ)
    else
      if x4 = 0 then
        some (x3, σ)
      else
        bnd (fM_betterBy N x1 x2 σ) fun r1 σ2 =>
        nm ((x3 + r1)) fun (y3 : Int32) =>
        if r1 ≤ 0 then
          fM_mostFrom_66 N (fM_mostFrom_29 N n) x1 x2 y3 x5 0 σ2
        else
          fM_mostFrom_66 N (fM_mostFrom_29 N n) x1 x2 y3 x5 1 σ2
def fM_mostFrom_2 (N : Nat) : Nat → Int32 → Int32 → Int32 → St → Option (Int32 × St)
  | 0, _, _, _, _ => none
  | n+1, x1, x2, x3, σ =>
    if 24 ≤ x3 then
      fM_mostFrom_29 N N x1 x2 0 1 x1 σ
    else
      chk (inb x3 24) <|
      nm (sI σ 334 0 0 x3.toNatClampNeg (-1)) fun (σ1 : St) =>
      (fM_mostFrom_2 N n) x1 x2 (x3 + 1) σ1
def fM_mostFrom (N : Nat) (x1 : Int32) (x2 : Int32) (σ : St) : Option (Int32 × St) :=
  fM_mostFrom_2 N N x1 x2 0 σ
def fM_send_61 (N : Nat) (go49 : Int32 → Int32 → Int32 → Int32 → St → Option (Int32 × St)) : Nat → Int32 → Int32 → Int32 → Int32 → Int32 → St → Option (Int32 × St)
  | 0, _, _, _, _, _, _ => none
  | n+1, x1, x2, x3, x4, x5, σ =>
    if (σ.1 316 0 0 0) ≤ x5 then
      go49 x1 x2 x3 (x4 + 1) σ
    else
      chk (inb x4 20) <|
      if (σ.1 330 0 0 x4.toNatClampNeg) = (-1) then
        bn1 (fM_gainAt N x4 x5 x3 σ) fun r1 =>
        if r1 = 0 then
          (fM_send_61 N go49 n) x1 x2 x3 x4 (x5 + 1) σ
        else
          bnd (fM_mostFrom N (x4 + 1) (x3 ||| (1 <<< (x5 &&& 31))) σ) fun r2 σ3 =>
          if (r1 + r2) = x2 then
            nm (sI σ3 330 0 0 x4.toNatClampNeg x5) fun (σ4 : St) =>
            nm ((x3 ||| (1 <<< (x5 &&& 31)))) fun (y5 : Int32) =>
            nm ((x2 - r1)) fun (y6 : Int32) =>
            (fM_send_61 N go49 n) x1 y6 y5 x4 (x5 + 1) σ4
          else
            (fM_send_61 N go49 n) x1 x2 x3 x4 (x5 + 1) σ3
      else
        go49 x1 x2 x3 (x4 + 1) σ
def fM_send_49 (N : Nat) : Nat → Int32 → Int32 → Int32 → Int32 → St → Option (Int32 × St)
  | 0, _, _, _, _, _ => none
  | n+1, x1, x2, x3, x4, σ =>
    if (σ.1 208 0 0 0) ≤ x4 then
      some (x1, σ)
    else
      fM_send_61 N (fM_send_49 N n) N x1 x2 x3 x4 0 σ
def fM_send_16 (N : Nat) : Nat → Int32 → St → Option (Int32 × St)
  | 0, _, _ => none
  | n+1, x1, σ =>
    if 20 ≤ x1 then
      bnd (fM_mostFrom N 0 0 σ) fun r1 σ2 =>
      fM_send_49 N N r1 r1 0 0 σ2
    else
      chk (inb x1 20) <|
      nm (sI σ 330 0 0 x1.toNatClampNeg (-1)) fun (σ3 : St) =>
      (fM_send_16 N n) (x1 + 1) σ3
def fM_send (N : Nat) (σ : St) : Option (Int32 × St) :=
  nm (sI σ 204 0 0 0 0) fun (σ1 : St) =>
  bn1 (fM_tellGains N σ1) fun σ2 =>
  nm (sI σ2 333 0 0 0 1) fun (σ3 : St) =>
  fM_send_16 N N 0 σ3
def fM_sent (N : Nat) (x1 : Int32) (σ : St) : Option (Int32 × St) :=
  nm (sI σ 204 0 0 0 0) fun (σ1 : St) =>
  bn1 (fM_isPerson N x1 σ1) fun r2 =>
  if r2 = 0 then
    bnd (fM_fail N σ1) fun r3 σ4 =>
    some (r3, σ4)
  else
    if (σ1.1 333 0 0 0) = 0 then
      some ((-1), σ1)
    else
      chk (inb x1 20) <|
      some ((σ1.1 330 0 0 x1.toNatClampNeg), σ1)
def fM_price_35 (N : Nat) (x1 : Int32) (x2 : Int32) (x3 : Int32) (s0 : Int32) (σ : St) : Option (Int32 × St) :=
  if s0 = 0 then
    some (0, σ)
  else
    if x3 < 0 then
      some (0, σ)
    else
      if x3 ≤ 9999 then
        if x1 = 0 then
          chk (inb x2 20) <|
          nm (sI σ 331 0 0 x2.toNatClampNeg x3) fun (σ2 : St) =>
          some (1, σ2)
        else
          chk (inb x2 24) <|
          nm (sI σ 332 0 0 x2.toNatClampNeg x3) fun (σ1 : St) =>
          some (1, σ1)
      else
        some (0, σ)
def fM_price_34 (N : Nat) (x1 : Int32) (x2 : Int32) (x3 : Int32) (σ : St) : Option (Int32 × St) :=
  fM_price_35 N x1 x2 x3 0 σ
def fM_price (N : Nat) (x1 : Int32) (x2 : Int32) (x3 : Int32) (σ : St) : Option (Int32 × St) :=
  nm (sI σ 204 0 0 0 0) fun (σ1 : St) =>
  if x1 = 0 then
    bn1 (fM_isPerson N x2 σ1) fun r3 =>
    fM_price_35 N x1 x2 x3 r3 σ1
  else
    if x1 = 1 then
      bn1 (fM_isVacancy N x2 σ1) fun r2 =>
      if r2 = 0 then
        fM_price_34 N x1 x2 x3 σ1
      else
        fM_price_35 N x1 x2 x3 1 σ1
    else
      fM_price_34 N x1 x2 x3 σ1
def fM_proves_32 (N : Nat) (go13 : Int32 → Int32 → St → Option (Int32 × St)) : Nat → Int32 → Int32 → Int32 → St → Option (Int32 × St)
  | 0, _, _, _, _ => none
  | n+1, x1, x2, x3, σ =>
    if (σ.1 316 0 0 0) ≤ x3 then
      go13 x1 (x2 + 1) σ
    else
      chk (inb x2 20) <|
      chk (inb x3 24) <|
      chk (inb ((24 * x2) + x3) 480) <|
      if (σ.1 329 0 0 ((24 * x2) + x3).toNatClampNeg) ≤ ((σ.1 331 0 0 x2.toNatClampNeg) + (σ.1 332 0 0 x3.toNatClampNeg)) then
        (fM_proves_32 N go13 n) x1 x2 (x3 + 1) σ
      else
        some ((-1), σ)
def fM_proves_83 (N : Nat) : Nat → Int32 → Int32 → St → Option (Int32 × St)
  | 0, _, _, _ => none
  | n+1, x1, x2, σ =>
    if (σ.1 316 0 0 0) ≤ x2 then
      some (x1, σ)
    else
      chk (inb x2 24) <|
      nm ((x1 + (σ.1 332 0 0 x2.toNatClampNeg))) fun (y1 : Int32) =>
      (fM_proves_83 N n) y1 (x2 + 1) σ
def fM_proves_13 (N : Nat) : Nat → Int32 → Int32 → St → Option (Int32 × St)
  | 0, _, _, _ => none
  | n+1, x1, x2, σ =>
    if (σ.1 208 0 0 0) ≤ x2 then
      fM_proves_83 N N x1 0 σ
    else
      chk (inb x2 20) <|
      nm ((x1 + (σ.1 331 0 0 x2.toNatClampNeg))) fun (y1 : Int32) =>
      fM_proves_32 N (fM_proves_13 N n) N y1 x2 0 σ
def fM_proves (N : Nat) (σ : St) : Option (Int32 × St) :=
  nm (sI σ 204 0 0 0 0) fun (σ1 : St) =>
  bn1 (fM_tellGains N σ1) fun σ2 =>
  fM_proves_13 N N 0 0 σ2
def fM_judge (N : Nat) (x1 : Int32) (x2 : Int32) (σ : St) : Option (Int32 × St) :=
  nm (sI σ 204 0 0 0 0) fun (σ1 : St) =>
  if (σ1.1 337 0 0 0) = 18 then
    some ((-1), σ1)
  else
    if x1 < 0 then
      some ((-1), σ1)
    else
      if 2 < x1 then
        some ((-1), σ1)
      else
        if x2 < 0 then
          some ((-1), σ1)
        else
          if x2 ≤ 99 then
            chk (inb (σ1.1 337 0 0 0) 18) <|
            nm (sI σ1 339 0 0 (σ1.1 337 0 0 0).toNatClampNeg x1) fun (σ2 : St) =>
            chk (inb (σ2.1 337 0 0 0) 18) <|
            nm (sI σ2 340 0 0 (σ2.1 337 0 0 0).toNatClampNeg x2) fun (σ3 : St) =>
            nm (sI σ3 337 0 0 0 ((σ3.1 337 0 0 0) + 1)) fun (σ4 : St) =>
            some (((σ4.1 337 0 0 0) - 1), σ4)
          else
            some ((-1), σ1)
def fM_isInCase_31 (N : Nat) (go4 : Int32 → Int32 → Int32 → St → Option Int32) (x1 : Int32) (x3 : Int32) (s0 : Int32) (σ : St) : Option Int32 :=
  go4 x1 s0 (x3 + 1) σ
def fM_isInCase_26 (N : Nat) (go4 : Int32 → Int32 → Int32 → St → Option Int32) (x1 : Int32) (x3 : Int32) (σ : St) : Option Int32 :=
  fM_isInCase_31 N go4 x1 x3 1 σ
def fM_isInCase_4 (N : Nat) : Nat → Int32 → Int32 → Int32 → St → Option Int32
  | 0, _, _, _, _ => none
  | n+1, x1, x2, x3, σ =>
    if (σ.1 338 0 0 0) ≤ x3 then
      some (x2 &&& 1)
    else
      if x2 = 0 then
        chk (inb x3 30) <|
        if (σ.1 342 0 0 x3.toNatClampNeg) = x1 then
          fM_isInCase_26 N (fM_isInCase_4 N n) x1 x3 σ
        else
          fM_isInCase_31 N (fM_isInCase_4 N n) x1 x3 0 σ
      else
        fM_isInCase_26 N (fM_isInCase_4 N n) x1 x3 σ
def fM_isInCase (N : Nat) (x1 : Int32) (σ : St) : Option Int32 :=
  fM_isInCase_4 N N x1 0 0 σ
def fM_nextJudge_2 (N : Nat) : Nat → Int32 → Int32 → Int32 → St → Option Int32
  | 0, _, _, _, _ => none
  | n+1, x1, x2, x3, σ =>
    if (σ.1 337 0 0 0) < x3 then
      some (-1)
    else
      chk (inb x1 3) <|
      chk (¬ (σ.1 337 0 0 0) = 0) <|
      nm ((irem ((σ.1 341 0 0 x1.toNatClampNeg) + x3) (σ.1 337 0 0 0))) fun (y1 : Int32) =>
      chk (inb y1 18) <|
      if (σ.1 339 0 0 y1.toNatClampNeg) = x1 then
        if (σ.1 340 0 0 y1.toNatClampNeg) = x2 then
          (fM_nextJudge_2 N n) x1 x2 (x3 + 1) σ
        else
          some y1
      else
        (fM_nextJudge_2 N n) x1 x2 (x3 + 1) σ
def fM_nextJudge (N : Nat) (x1 : Int32) (x2 : Int32) (σ : St) : Option Int32 :=
  fM_nextJudge_2 N N x1 x2 1 σ
def fM_appeal_17 (N : Nat) (σ : St) : Option (Int32 × St) :=
  bnd (fM_fail N σ) fun r1 σ2 =>
  some (r1, σ2)
def fM_appeal_67 (N : Nat) (x1 : Int32) (s0 : Int32) (σ : St) : Option (Int32 × St) :=
  if (σ.1 338 0 0 0) = 30 then
    some ((-1), σ)
  else
    if s0 = 0 then
      some ((-1), σ)
    else
      chk (inb x1 160) <|
      chk (inb (σ.1 230 0 0 x1.toNatClampNeg) 20) <|
      nm ((σ.1 215 0 0 (σ.1 230 0 0 x1.toNatClampNeg).toNatClampNeg)) fun (y1 : Int32) =>
      bn1 (fM_nextJudge N 0 y1 σ) fun r2 =>
      bn1 (fM_nextJudge N 1 y1 σ) fun r3 =>
      bn1 (fM_nextJudge N 2 y1 σ) fun r4 =>
      if r2 = (-1) then
        some ((-1), σ)
      else
        if r3 = (-1) then
          some ((-1), σ)
        else
          if r4 = (-1) then
            some ((-1), σ)
          else
            nm (sI σ 341 0 0 0 r2) fun (σ5 : St) =>
            nm (sI σ5 341 0 0 1 r3) fun (σ6 : St) =>
            nm (sI σ6 341 0 0 2 r4) fun (σ7 : St) =>
            chk (inb (3 * (σ7.1 338 0 0 0)) 90) <|
            nm (sI σ7 344 0 0 (3 * (σ7.1 338 0 0 0)).toNatClampNeg r2) fun (σ8 : St) =>
            chk (inb ((3 * (σ8.1 338 0 0 0)) + 1) 90) <|
            nm (sI σ8 344 0 0 ((3 * (σ8.1 338 0 0 0)) + 1).toNatClampNeg r3) fun (σ9 : St) =>
            chk (inb ((3 * (σ9.1 338 0 0 0)) + 2) 90) <|
            nm (sI σ9 344 0 0 ((3 * (σ9.1 338 0 0 0)) + 2).toNatClampNeg r4) fun (σ10 : St) =>
            chk (inb (σ10.1 338 0 0 0) 30) <|
            nm (sI σ10 342 0 0 (σ10.1 338 0 0 0).toNatClampNeg x1) fun (σ11 : St) =>
            chk (inb (σ11.1 338 0 0 0) 30) <|
            nm (sI σ11 343 0 0 (σ11.1 338 0 0 0).toNatClampNeg (σ11.1 205 0 0 0)) fun (σ12 : St) =>
            chk (inb (σ12.1 338 0 0 0) 30) <|
            nm (sI σ12 345 0 0 (σ12.1 338 0 0 0).toNatClampNeg (-1)) fun (σ13 : St) =>
            nm (sI σ13 338 0 0 0 ((σ13.1 338 0 0 0) + 1)) fun (σ14 : St) =>
            some (((σ14.1 338 0 0 0) - 1), σ14)
def fM_appeal_66 (N : Nat) (x1 : Int32) (σ : St) : Option (Int32 × St) :=
  fM_appeal_67 N x1 0 σ
def fM_appeal_42 (N : Nat) (x1 : Int32) (σ : St) : Option (Int32 × St) :=
  bn1 (fM_isKnown N x1 (σ.1 205 0 0 0) σ) fun r1 =>
  if r1 = 0 then
    fM_appeal_66 N x1 σ
  else
    bn1 (fM_isInCase N x1 σ) fun r2 =>
    if r2 = 0 then
      fM_appeal_67 N x1 1 σ
    else
      fM_appeal_66 N x1 σ
def fM_appeal (N : Nat) (x1 : Int32) (σ : St) : Option (Int32 × St) :=
  nm (sI σ 204 0 0 0 0) fun (σ1 : St) =>
  if x1 < 0 then
    fM_appeal_17 N σ1
  else
    if x1 < (σ1.1 218 0 0 0) then
      chk (inb x1 160) <|
      if (σ1.1 229 0 0 x1.toNatClampNeg) = 0 then
        fM_appeal_42 N x1 σ1
      else
        if (σ1.1 229 0 0 x1.toNatClampNeg) = 7 then
          fM_appeal_42 N x1 σ1
        else
          fM_appeal_66 N x1 σ1
    else
      fM_appeal_17 N σ1
def fM_close_17 (N : Nat) (σ : St) : Option (Int32 × St) :=
  bnd (fM_fail N σ) fun r1 σ2 =>
  some (0, σ2)
def fM_close_50 (N : Nat) (x1 : Int32) (x2 : Int32) (σ : St) : Option (Int32 × St) :=
  chk (inb x1 30) <|
  nm (sI σ 345 0 0 x1.toNatClampNeg (σ.1 205 0 0 0)) fun (σ1 : St) =>
  nm (sI σ1 346 0 0 x1.toNatClampNeg (x2 &&& 1)) fun (σ2 : St) =>
  if x2 = 0 then
    some (1, σ2)
  else
    chk (inb (σ2.1 342 0 0 x1.toNatClampNeg) 160) <|
    bnd (fM_note N 8 (σ2.1 230 0 0 (σ2.1 342 0 0 x1.toNatClampNeg).toNatClampNeg) (σ2.1 342 0 0 x1.toNatClampNeg) (σ2.1 205 0 0 0) σ2) fun r3 σ4 =>
    some (1, σ4)
def fM_close (N : Nat) (x1 : Int32) (x2 : Int32) (σ : St) : Option (Int32 × St) :=
  nm (sI σ 204 0 0 0 0) fun (σ1 : St) =>
  if x1 < 0 then
    fM_close_17 N σ1
  else
    if x1 < (σ1.1 338 0 0 0) then
      chk (inb x1 30) <|
      if (σ1.1 345 0 0 x1.toNatClampNeg) = (-1) then
        if x2 = 0 then
          fM_close_50 N x1 x2 σ1
        else
          if (σ1.1 218 0 0 0) = 160 then
            some (0, σ1)
          else
            fM_close_50 N x1 x2 σ1
      else
        some (0, σ1)
    else
      fM_close_17 N σ1
def fM_isLate_37 (N : Nat) (x1 : Int32) (s0 : Int32) (σ : St) : Option (Int32 × St) :=
  chk (inb x1 30) <|
  bn1 (fM_param N 7 σ) fun r1 =>
  if (s0 - (σ.1 343 0 0 x1.toNatClampNeg)) ≤ r1 then
    some (0, σ)
  else
    some (1, σ)
def fM_isLate (N : Nat) (x1 : Int32) (σ : St) : Option (Int32 × St) :=
  chk (inb x1 30) <|
  bn1 (fM_tellLaw N (σ.1 343 0 0 x1.toNatClampNeg) (σ.1 205 0 0 0) σ) fun σ1 =>
  if (σ1.1 345 0 0 x1.toNatClampNeg) = (-1) then
    fM_isLate_37 N x1 (σ1.1 205 0 0 0) σ1
  else
    fM_isLate_37 N x1 (σ1.1 345 0 0 x1.toNatClampNeg) σ1
def fM_caseOf_17 (N : Nat) (σ : St) : Option (Int32 × St) :=
  bnd (fM_fail N σ) fun r1 σ2 =>
  some (r1, σ2)
def fM_caseOf (N : Nat) (x1 : Int32) (x2 : Int32) (σ : St) : Option (Int32 × St) :=
  nm (sI σ 204 0 0 0 0) fun (σ1 : St) =>
  if x1 < 0 then
    fM_caseOf_17 N σ1
  else
    if x1 < (σ1.1 338 0 0 0) then
      if x2 = 0 then
        chk (inb x1 30) <|
        some ((σ1.1 342 0 0 x1.toNatClampNeg), σ1)
      else
      if x2 = 1 then
        chk (inb x1 30) <|
        some ((σ1.1 343 0 0 x1.toNatClampNeg), σ1)
      else
      if x2 = 2 then
        chk (inb (((3 * x1) + x2) - 2) 90) <|
        some ((σ1.1 344 0 0 (((3 * x1) + x2) - 2).toNatClampNeg), σ1)
      else
      if x2 = 3 then
        chk (inb (((3 * x1) + x2) - 2) 90) <|
        some ((σ1.1 344 0 0 (((3 * x1) + x2) - 2).toNatClampNeg), σ1)
      else
      if x2 = 4 then
        chk (inb (((3 * x1) + x2) - 2) 90) <|
        some ((σ1.1 344 0 0 (((3 * x1) + x2) - 2).toNatClampNeg), σ1)
      else
      if x2 = 5 then
        chk (inb x1 30) <|
        some ((σ1.1 345 0 0 x1.toNatClampNeg), σ1)
      else
      if x2 = 6 then
        chk (inb x1 30) <|
        if (σ1.1 346 0 0 x1.toNatClampNeg) = 0 then
          some (0, σ1)
        else
          some (1, σ1)
      else
      if x2 = 7 then
        bnd (fM_isLate N x1 σ1) fun r2 σ3 =>
        if r2 = 0 then
          some (0, σ3)
        else
          some (1, σ3)
      else
      bnd (fM_fail N σ1) fun r4 σ5 =>
      some (r4, σ5)
    else
      fM_caseOf_17 N σ1
def fM_addUp_77 (N : Nat) (go2 : Int32 → Int32 → St → Option St) (go12 : Int32 → Int32 → Int32 → St → Option St) (x1 : Int32) (x2 : Int32) (x3 : Int32) (x4 : Int32) (x5 : Int32) (s0 : Int32) (σ : St) : Option St :=
  chk (inb x2 20) <|
  chk (inb (σ.1 211 0 0 x2.toNatClampNeg) 9) <|
  chk (inb x4 12480) <|
  nm (sJ σ 348 0 0 (σ.1 211 0 0 x2.toNatClampNeg).toNatClampNeg ((σ.2 348 0 0 (σ.1 211 0 0 x2.toNatClampNeg).toNatClampNeg) + (x1.toInt64 * (σ.2 308 0 0 x4.toNatClampNeg)))) fun (σ1 : St) =>
  nm (sJ σ1 348 0 0 8 ((σ1.2 348 0 0 8) + (x1.toInt64 * (σ1.2 308 0 0 x4.toNatClampNeg)))) fun (σ2 : St) =>
  chk (inb (σ2.1 211 0 0 x2.toNatClampNeg) 9) <|
  nm (sI σ2 349 0 0 (σ2.1 211 0 0 x2.toNatClampNeg).toNatClampNeg ((σ2.1 349 0 0 (σ2.1 211 0 0 x2.toNatClampNeg).toNatClampNeg) + x5)) fun (σ3 : St) =>
  nm (sI σ3 349 0 0 8 ((σ3.1 349 0 0 8) + x5)) fun (σ4 : St) =>
  chk (inb (σ4.1 211 0 0 x2.toNatClampNeg) 9) <|
  nm (sI σ4 350 0 0 (σ4.1 211 0 0 x2.toNatClampNeg).toNatClampNeg ((σ4.1 350 0 0 (σ4.1 211 0 0 x2.toNatClampNeg).toNatClampNeg) + s0)) fun (σ5 : St) =>
  nm (sI σ5 350 0 0 8 ((σ5.1 350 0 0 8) + s0)) fun (σ6 : St) =>
  go12 x1 x2 (x3 + 1) σ6
def fM_addUp_60 (N : Nat) (go2 : Int32 → Int32 → St → Option St) (go12 : Int32 → Int32 → Int32 → St → Option St) (x1 : Int32) (x2 : Int32) (x3 : Int32) (x4 : Int32) (s0 : Int32) (σ : St) : Option St :=
  chk (inb x4 12480) <|
  if (σ.1 304 0 0 x4.toNatClampNeg) = 0 then
    fM_addUp_77 N go2 go12 x1 x2 x3 x4 s0 x1 σ
  else
    fM_addUp_77 N go2 go12 x1 x2 x3 x4 s0 0 σ
def fM_addUp_59 (N : Nat) (go2 : Int32 → Int32 → St → Option St) (go12 : Int32 → Int32 → Int32 → St → Option St) (x1 : Int32) (x2 : Int32) (x3 : Int32) (x4 : Int32) (σ : St) : Option St :=
  fM_addUp_60 N go2 go12 x1 x2 x3 x4 0 σ
def fM_addUp_12 (N : Nat) (go2 : Int32 → Int32 → St → Option St) : Nat → Int32 → Int32 → Int32 → St → Option St
  | 0, _, _, _, _ => none
  | n+1, x1, x2, x3, σ =>
    if ((σ.1 205 0 0 0) - 312) < x3 then
      go2 x1 (x2 + 1) σ
    else
      nm (((624 * x2) + x3)) fun (y1 : Int32) =>
      chk (inb y1 12480) <|
      if (σ.1 304 0 0 y1.toNatClampNeg) < 3 then
        fM_addUp_59 N go2 (fM_addUp_12 N go2 n) x1 x2 x3 y1 σ
      else
        if 5 < (σ.1 304 0 0 y1.toNatClampNeg) then
          fM_addUp_59 N go2 (fM_addUp_12 N go2 n) x1 x2 x3 y1 σ
        else
          fM_addUp_60 N go2 (fM_addUp_12 N go2 n) x1 x2 x3 y1 x1 σ
def fM_addUp_2 (N : Nat) : Nat → Int32 → Int32 → St → Option St
  | 0, _, _, _ => none
  | n+1, x1, x2, σ =>
    if (σ.1 208 0 0 0) ≤ x2 then
      some σ
    else
      fM_addUp_12 N (fM_addUp_2 N n) N x1 x2 0 σ
def fM_addUp (N : Nat) (x1 : Int32) (σ : St) : Option St :=
  fM_addUp_2 N N x1 0 σ
def fM_attempt_17 (N : Nat) (σ : St) : Option (Int32 × St) :=
  bnd (fM_fail N σ) fun r1 σ2 =>
  some (r1, σ2)
def fM_attempt_83 (N : Nat) : Nat → Int32 → St → Option (Int32 × St)
  | 0, _, _ => none
  | n+1, x4, σ =>
    if 9 ≤ x4 then
      nm (sI σ 266 0 0 0 1) fun (σ1 : St) =>
      bn1 (fM_run N (σ1.1 205 0 0 0) (σ1.1 205 0 0 0) σ1) fun σ2 =>
      bn1 (fM_addUp N 1 σ2) fun σ3 =>
      nm (sI σ3 266 0 0 0 0) fun (σ4 : St) =>
      bn1 (fM_run N (σ4.1 205 0 0 0) (σ4.1 205 0 0 0) σ4) fun σ5 =>
      bn1 (fM_addUp N (-1) σ5) fun σ6 =>
      nm (sI σ6 347 0 0 0 1) fun (σ7 : St) =>
      nm (sI σ7 273 0 0 0 0) fun (σ8 : St) =>
      some (0, σ8)
    else
      chk (inb x4 9) <|
      nm (sJ σ 348 0 0 x4.toNatClampNeg 0) fun (σ9 : St) =>
      nm (sI σ9 349 0 0 x4.toNatClampNeg 0) fun (σ10 : St) =>
      nm (sI σ10 350 0 0 x4.toNatClampNeg 0) fun (σ11 : St) =>
      (fM_attempt_83 N n) (x4 + 1) σ11
def fM_attempt (N : Nat) (x1 : Int32) (x2 : Int32) (x3 : Int32) (σ : St) : Option (Int32 × St) :=
  nm (sI σ 204 0 0 0 0) fun (σ1 : St) =>
  if x1 < 0 then
    fM_attempt_17 N σ1
  else
    if x1 ≤ (σ1.1 247 0 0 0) then
      nm (sI σ1 257 0 0 0 (-1)) fun (σ2 : St) =>
      bn1 (fM_isSpan N x2 x3 σ2) fun r3 =>
      if r3 = 0 then
        nm (sI σ2 247 0 0 0 0) fun (σ8 : St) =>
        some (9, σ8)
      else
        bnd (fM_readText N (σ2.1 219 0 0 0) x1 σ2) fun r4 σ5 =>
        if r4 = 0 then
          chk (inb (σ5.1 219 0 0 0) 17) <|
          nm (sI σ5 235 0 0 (σ5.1 219 0 0 0).toNatClampNeg x2) fun (σ6 : St) =>
          chk (inb (σ6.1 219 0 0 0) 17) <|
          nm (sI σ6 236 0 0 (σ6.1 219 0 0 0).toNatClampNeg x3) fun (σ7 : St) =>
          fM_attempt_83 N N 0 σ7
        else
          some ((σ5.1 255 0 0 0), σ5)
    else
      fM_attempt_17 N σ1
def fM_tried_31 (N : Nat) (σ : St) : Option (Int32 × St) :=
  bnd (fM_fail N σ) fun r1 σ2 =>
  some (r1, σ2)
def fM_tried (N : Nat) (x1 : Int32) (x2 : Int32) (σ : St) : Option (Int32 × St) :=
  nm (sI σ 204 0 0 0 0) fun (σ1 : St) =>
  if (σ1.1 347 0 0 0) = 0 then
    fM_tried_31 N σ1
  else
    if x1 < 0 then
      fM_tried_31 N σ1
    else
      if 8 < x1 then
        fM_tried_31 N σ1
      else
        if x2 < 0 then
          fM_tried_31 N σ1
        else
          if x2 ≤ 2 then
            if x2 = 0 then
              chk (inb x1 9) <|
              bn1 (fM_toInt N (σ1.2 348 0 0 x1.toNatClampNeg) σ1) fun r2 =>
              some (r2, σ1)
            else
              if x2 = 1 then
                chk (inb x1 9) <|
                some ((σ1.1 349 0 0 x1.toNatClampNeg), σ1)
              else
                chk (inb x1 9) <|
                some ((σ1.1 350 0 0 x1.toNatClampNeg), σ1)
          else
            fM_tried_31 N σ1
def fM_count_32 (N : Nat) (go9 : Int32 → Int32 → Int32 → St → Option (Int32 × St)) (x1 : Int32) (x3 : Int32) (s0 : Int32) (s1 : Int32) (σ : St) : Option (Int32 × St) :=
  nm ((s0 + s1)) fun (y1 : Int32) =>
  go9 x1 y1 (x3 + 1) σ
def fM_count_9 (N : Nat) : Nat → Int32 → Int32 → Int32 → St → Option (Int32 × St)
  | 0, _, _, _, _ => none
  | n+1, x1, x2, x3, σ =>
    if (σ.1 316 0 0 0) ≤ x3 then
      if x1 = 0 then
        some ((σ.1 205 0 0 0), σ)
      else
      if x1 = 1 then
        some ((σ.1 207 0 0 0), σ)
      else
      if x1 = 2 then
        some ((σ.1 208 0 0 0), σ)
      else
      if x1 = 3 then
        some ((σ.1 218 0 0 0), σ)
      else
      if x1 = 4 then
        some ((σ.1 219 0 0 0), σ)
      else
      if x1 = 5 then
        some ((σ.1 316 0 0 0), σ)
      else
      if x1 = 6 then
        some (x2, σ)
      else
      if x1 = 7 then
        some ((σ.1 317 0 0 0), σ)
      else
      if x1 = 8 then
        some ((σ.1 338 0 0 0), σ)
      else
      if x1 = 9 then
        some ((σ.1 337 0 0 0), σ)
      else
      if x1 = 10 then
        some ((σ.1 247 0 0 0), σ)
      else
      bnd (fM_fail N σ) fun r1 σ2 =>
      some (r1, σ2)
    else
      chk (inb x3 24) <|
      if (σ.1 323 0 0 x3.toNatClampNeg) = 0 then
        fM_count_32 N (fM_count_9 N n) x1 x3 x2 1 σ
      else
        fM_count_32 N (fM_count_9 N n) x1 x3 x2 0 σ
def fM_count (N : Nat) (x1 : Int32) (σ : St) : Option (Int32 × St) :=
  nm (sI σ 204 0 0 0 0) fun (σ1 : St) =>
  fM_count_9 N N x1 0 0 σ1
