/-! WORDS: the check that whole holds the class against, as functions of numbers; no code of it is spoken of here -/
def fX6_isDocument (w : Wd) (a1 : Int32) : Option (Int32) :=
  if a1 < 0 then
    rtZ 0
  else
    if 60 ≤ a1 then
      rtZ 0
    else
      rtZ 1
def fX6_isList (w : Wd) (a1 : Int32) : Option (Int32) :=
  if a1 < 0 then
    rtZ 0
  else
    if 6 ≤ a1 then
      rtZ 0
    else
      rtZ 1
def lX6_placeOf_5 (o : Nat) : Nat → Wd → Int32 → Int32 → Int32 → Int32 → Option (Int32)
  | 0, _, _, _, _, _ => none
  | n + 1, w, x1, x2, x3, x4 =>
    (ldI 706 w (o + 1) (480 + x1)).bind fun v1 =>
    if v1 ≤ x4 then
      some x3
    else
      (ldI 706 w (o + 1) ((0 + (40 * x1)) + x4)).bind fun v3 =>
      if v3 = x2 then
        lX6_placeOf_5 o n w x1 x2 x4 (x4 + 1)
      else
        lX6_placeOf_5 o n w x1 x2 x3 (x4 + 1)
def fX6_placeOf (w : Wd) (o : Nat) (a1 : Int32) (a2 : Int32) : Option (Int32) :=
  lX6_placeOf_5 o 4096 w a1 a2 (-1) 0
def lX6_putIn_109 (o : Nat) : Nat → Wd → Int32 → Int32 → Int32 → Int32 → Int32 → Option (Int32 × Wd)
  | 0, _, _, _, _, _, _ => none
  | n + 1, w, x1, x2, x3, x4, x5 =>
    if x5 ≤ x4 then
      (stI 706 w (o + 1) ((0 + (40 * x1)) + x4) x2).bind fun w5 =>
      (stI 706 w5 (o + 1) ((240 + (40 * x1)) + x4) x3).bind fun w6 =>
      (ldI 706 w6 (o + 1) (480 + x1)).bind fun v7 =>
      (stI 706 w6 (o + 1) (480 + x1) (v7 + 1)).bind fun w8 =>
      some (x4, w8)
    else
      (ldI 706 w (o + 1) (((0 + (40 * x1)) + x5) - 1)).bind fun v9 =>
      (stI 706 w (o + 1) ((0 + (40 * x1)) + x5) v9).bind fun w10 =>
      (ldI 706 w10 (o + 1) (((240 + (40 * x1)) + x5) - 1)).bind fun v11 =>
      (stI 706 w10 (o + 1) ((240 + (40 * x1)) + x5) v11).bind fun w12 =>
      lX6_putIn_109 o n w12 x1 x2 x3 x4 (x5 + (-1))
def lX6_putIn_6 (o : Nat) : Nat → Wd → Int32 → Int32 → Int32 → Int32 → Int32 → Option (Int32 × Wd)
  | 0, _, _, _, _, _, _ => none
  | n + 1, w, x1, x2, x3, x4, x5 =>
    (ldI 706 w (o + 1) (480 + x1)).bind fun v1 =>
    if v1 ≤ x5 then
      (ldI 706 w (o + 1) (480 + x1)).bind fun v3 =>
      lX6_putIn_109 o 4096 w x1 x2 x3 x4 v3
    else
      (ldI 706 w (o + 1) ((240 + (40 * x1)) + x5)).bind fun v13 =>
      if x3 < v13 then
        lX6_putIn_6 o n w x1 x2 x3 (x4 + 1) (x5 + 1)
      else
        if v13 = x3 then
          (ldI 706 w (o + 1) ((0 + (40 * x1)) + x5)).bind fun v16 =>
          if x2 ≤ v16 then
            lX6_putIn_6 o n w x1 x2 x3 (x4 + 0) (x5 + 1)
          else
            lX6_putIn_6 o n w x1 x2 x3 (x4 + 1) (x5 + 1)
        else
          lX6_putIn_6 o n w x1 x2 x3 (x4 + 0) (x5 + 1)
def fX6_putIn (w : Wd) (o : Nat) (a1 : Int32) (a2 : Int32) (a3 : Int32) : Option (Int32 × Wd) :=
  lX6_putIn_6 o 4096 w a1 a2 a3 0 0
def lX6_record_51 (o : Nat) : Nat → Wd → Int32 → Option (Wd)
  | 0, _, _ => none
  | n + 1, w, x1 =>
    if 706 ≤ x1 then
      (pI w o 5 ((w.1 o 5) + 1)).bind fun w3 =>
      some w3
    else
      (ldI 706 w (o + 1) x1).bind fun v4 =>
      (stI 2824 w (o + 2) (((w.1 o 5) * 706) + x1) v4).bind fun w5 =>
      lX6_record_51 o n w5 (x1 + 1)
def lX6_record_10 (o : Nat) : Nat → Wd → Int32 → Option (Wd)
  | 0, _, _ => none
  | n + 1, w, x1 =>
    if 2118 ≤ x1 then
      (pI w o 5 ((w.1 o 5) - 1)).bind fun w7 =>
      lX6_record_51 o 4096 w7 0
    else
      (ldI 2824 w (o + 2) (x1 + 706)).bind fun v8 =>
      (stI 2824 w (o + 2) x1 v8).bind fun w9 =>
      lX6_record_10 o n w9 (x1 + 1)
def fX6_record (w : Wd) (o : Nat)  : Option (Wd) :=
  if (w.1 o 5) = 4 then
    lX6_record_10 o 4096 w 0
  else
    lX6_record_51 o 4096 w 0
def lX6_takeOut_16 (o : Nat) : Nat → Wd → Int32 → Int32 → Option (Wd)
  | 0, _, _, _ => none
  | n + 1, w, x1, x3 =>
    (ldI 706 w (o + 1) (480 + x1)).bind fun v3 =>
    if v3 ≤ x3 then
      (ldI 706 w (o + 1) (480 + x1)).bind fun v5 =>
      (stI 706 w (o + 1) ((0 + (40 * x1)) + v5) 0).bind fun w6 =>
      (ldI 706 w6 (o + 1) (480 + x1)).bind fun v7 =>
      (stI 706 w6 (o + 1) ((240 + (40 * x1)) + v7) 0).bind fun w8 =>
      some w8
    else
      (ldI 706 w (o + 1) (((0 + (40 * x1)) + x3) + 1)).bind fun v9 =>
      (stI 706 w (o + 1) ((0 + (40 * x1)) + x3) v9).bind fun w10 =>
      (ldI 706 w10 (o + 1) (((240 + (40 * x1)) + x3) + 1)).bind fun v11 =>
      (stI 706 w10 (o + 1) ((240 + (40 * x1)) + x3) v11).bind fun w12 =>
      lX6_takeOut_16 o n w12 x1 (x3 + 1)
def fX6_takeOut (w : Wd) (o : Nat) (a1 : Int32) (a2 : Int32) : Option (Wd) :=
  (ldI 706 w (o + 1) (480 + a1)).bind fun v1 =>
  (stI 706 w (o + 1) (480 + a1) (v1 - 1)).bind fun w2 =>
  lX6_takeOut_16 o 4096 w2 a1 a2
def bX6_add_77 (w : Wd) (o : Nat) (x1 : Int32) (x2 : Int32) (x3 : Int32) (x4 : Int32) : Option (Int32 × Wd) :=
  if x4 < 0 then
    (fX6_record w o).bind fun w12 =>
    if x4 < 0 then
      ob2 (fX6_putIn w12 o x1 x2 x3) fun v14 w15 =>
      some (v14, w15)
    else
      (fX6_takeOut w12 o x1 x4).bind fun w16 =>
      ob2 (fX6_putIn w16 o x1 x2 x3) fun v17 w18 =>
      some (v17, w18)
  else
    (ldI 706 w (o + 1) ((240 + (40 * x1)) + x4)).bind fun v19 =>
    if v19 = x3 then
      some ((-5), w)
    else
      (fX6_record w o).bind fun w21 =>
      if x4 < 0 then
        ob2 (fX6_putIn w21 o x1 x2 x3) fun v23 w24 =>
        some (v23, w24)
      else
        (fX6_takeOut w21 o x1 x4).bind fun w25 =>
        ob2 (fX6_putIn w25 o x1 x2 x3) fun v26 w27 =>
        some (v26, w27)
def fX6_add (w : Wd) (o : Nat) (a1 : Int32) (a2 : Int32) (a3 : Int32) : Option (Int32 × Wd) :=
  (fX6_isList w a1).bind fun v1 =>
  if v1 = 0 then
    some ((-1), w)
  else
    (fX6_isDocument w a2).bind fun v3 =>
    if v3 = 0 then
      some ((-1), w)
    else
      if a3 < 1 then
        some ((-2), w)
      else
        if a3 ≤ 999 then
          (ldI 706 w (o + 1) 559).bind fun v7 =>
          if v7 = 1 then
            some ((-4), w)
          else
            (fX6_placeOf w o a1 a2).bind fun v9 =>
            if 0 ≤ v9 then
              bX6_add_77 w o a1 a2 a3 v9
            else
              (ldI 706 w (o + 1) (480 + a1)).bind fun v28 =>
              if v28 = 40 then
                some ((-3), w)
              else
                bX6_add_77 w o a1 a2 a3 v9
        else
          some ((-2), w)
def fX6_isAsked (w : Wd) (o : Nat) (a1 : Int32) : Option (Int32) :=
  (ldI 706 w (o + 1) (486 + a1)).bind fun v1 =>
  if v1 ≤ 0 then
    rtZ 0
  else
    rtZ 1
def lX6_asked_4 (o : Nat) : Nat → Wd → Int32 → Int32 → Option (Int32)
  | 0, _, _, _ => none
  | n + 1, w, x1, x2 =>
    if 6 ≤ x2 then
      some x1
    else
      (fX6_isAsked w o x2).bind fun v2 =>
      if v2 = 0 then
        lX6_asked_4 o n w (x1 + 0) (x2 + 1)
      else
        lX6_asked_4 o n w (x1 + 1) (x2 + 1)
def fX6_asked (w : Wd) (o : Nat)  : Option (Int32) :=
  lX6_asked_4 o 4096 w 0 0
def fX6_left (w : Wd) (o : Nat) (a1 : Int32) : Option (Int32) :=
  (ldI 706 w (o + 1) (480 + a1)).bind fun v1 =>
  (ldI 706 w (o + 1) (568 + a1)).bind fun v2 =>
  some (v1 - v2)
def fX6_bound (w : Wd) (o : Nat) (a1 : Int32) : Option (Int32) :=
  (fX6_left w o a1).bind fun v1 =>
  if v1 = 0 then
    some 0
  else
    (ldI 706 w (o + 1) (568 + a1)).bind fun v3 =>
    (ldI 706 w (o + 1) ((240 + (40 * a1)) + v3)).bind fun v4 =>
    some v4
def fX6_toldBound (w : Wd) (o : Nat) (a1 : Int32) : Option (Int32) :=
  (fX6_bound w o a1).bind fun v1 =>
  (ldI 706 w (o + 1) (492 + a1)).bind fun v2 =>
  if v2 ≤ v1 then
    (ldI 706 w (o + 1) (492 + a1)).bind fun v4 =>
    (ldI 706 w (o + 1) (574 + a1)).bind fun v5 =>
    if v5 = 1 then
      some v1
    else
      some (v1 - v4)
  else
    (ldI 706 w (o + 1) (574 + a1)).bind fun v7 =>
    if v7 = 1 then
      some v1
    else
      some 0
def lX6_boundsTogether_4 (o : Nat) : Nat → Wd → Int32 → Int32 → Option (Int32)
  | 0, _, _, _ => none
  | n + 1, w, x1, x2 =>
    if 6 ≤ x2 then
      some x1
    else
      (ldI 706 w (o + 1) (486 + x2)).bind fun v2 =>
      (fX6_toldBound w o x2).bind fun v3 =>
      lX6_boundsTogether_4 o n w (x1 + (v2 * v3)) (x2 + 1)
def fX6_boundsTogether (w : Wd) (o : Nat)  : Option (Int32) :=
  lX6_boundsTogether_4 o 4096 w 0 0
def fX6_canBeRead (w : Wd) (o : Nat) (a1 : Int32) : Option (Int32) :=
  (fX6_isAsked w o a1).bind fun v1 =>
  if v1 = 0 then
    rtZ 0
  else
    (fX6_left w o a1).bind fun v3 =>
    if v3 ≤ 0 then
      rtZ 0
    else
      rtZ 1
def fX6_isSeen (w : Wd) (o : Nat) (a1 : Int32) : Option (Int32) :=
  (ldI 706 w (o + 1) (586 + a1)).bind fun v1 =>
  if v1 ≤ 0 then
    rtZ 0
  else
    rtZ 1
def lX6_frontPlace_12 (o : Nat) : Nat → Wd → Int32 → Int32 → Int32 → Int32 → Option (Int32)
  | 0, _, _, _, _, _ => none
  | n + 1, w, x1, x2, x3, x4 =>
    if 60 ≤ x4 then
      some x3
    else
      (ldI 60 w (o + 5) x4).bind fun v3 =>
      if x2 < v3 then
        (fX6_isSeen w o x4).bind fun v5 =>
        if v5 = 0 then
          lX6_frontPlace_12 o n w x1 x2 (x3 + 0) (x4 + 1)
        else
          lX6_frontPlace_12 o n w x1 x2 (x3 + 1) (x4 + 1)
      else
        (ldI 60 w (o + 5) x4).bind fun v7 =>
        if v7 = x2 then
          if x1 ≤ x4 then
            (fX6_isSeen w o x4).bind fun v12 =>
            if v12 = 0 then
              lX6_frontPlace_12 o n w x1 x2 (x3 + 0) (x4 + 1)
            else
              lX6_frontPlace_12 o n w x1 x2 (x3 + 0) (x4 + 1)
          else
            (fX6_isSeen w o x4).bind fun v14 =>
            if v14 = 0 then
              lX6_frontPlace_12 o n w x1 x2 (x3 + 0) (x4 + 1)
            else
              lX6_frontPlace_12 o n w x1 x2 (x3 + 1) (x4 + 1)
        else
          (fX6_isSeen w o x4).bind fun v9 =>
          if v9 = 0 then
            lX6_frontPlace_12 o n w x1 x2 (x3 + 0) (x4 + 1)
          else
            lX6_frontPlace_12 o n w x1 x2 (x3 + 0) (x4 + 1)
def fX6_frontPlace (w : Wd) (o : Nat) (a1 : Int32) : Option (Int32) :=
  (ldI 60 w (o + 5) a1).bind fun v1 =>
  lX6_frontPlace_12 o 4096 w a1 v1 0 0
def lX6_frontAt_4 (o : Nat) : Nat → Wd → Int32 → Int32 → Int32 → Option (Int32)
  | 0, _, _, _, _ => none
  | n + 1, w, x1, x2, x3 =>
    if 60 ≤ x3 then
      some x2
    else
      (fX6_isSeen w o x3).bind fun v2 =>
      if v2 = 0 then
        lX6_frontAt_4 o n w x1 x2 (x3 + 1)
      else
        (fX6_frontPlace w o x3).bind fun v4 =>
        if v4 = x1 then
          lX6_frontAt_4 o n w x1 x3 (x3 + 1)
        else
          lX6_frontAt_4 o n w x1 x2 (x3 + 1)
def fX6_frontAt (w : Wd) (o : Nat) (a1 : Int32) : Option (Int32) :=
  lX6_frontAt_4 o 4096 w a1 (-1) 0
def fX6_isKnown (w : Wd) (o : Nat) (a1 : Int32) (a2 : Int32) : Option (Int32) :=
  (fX6_left w o a1).bind fun v1 =>
  if v1 = 0 then
    rtZ 1
  else
    (ldI 706 w (o + 1) (646 + a2)).bind fun v3 =>
    if ((v3 >>> (a1 &&& 31)) &&& 1) = 1 then
      rtZ 1
    else
      rtZ 0
def lX6_high_9 (o : Nat) : Nat → Wd → Int32 → Int32 → Int32 → Option (Int32)
  | 0, _, _, _, _ => none
  | n + 1, w, x1, x2, x3 =>
    if 6 ≤ x3 then
      some x2
    else
      (fX6_isAsked w o x3).bind fun v3 =>
      if v3 = 0 then
        lX6_high_9 o n w x1 (x2 + 0) (x3 + 1)
      else
        (fX6_isKnown w o x3 x1).bind fun v5 =>
        if v5 = 0 then
          (ldI 706 w (o + 1) (486 + x3)).bind fun v7 =>
          (fX6_toldBound w o x3).bind fun v8 =>
          lX6_high_9 o n w x1 (x2 + (v7 * v8)) (x3 + 1)
        else
          lX6_high_9 o n w x1 (x2 + 0) (x3 + 1)
def fX6_high (w : Wd) (o : Nat) (a1 : Int32) : Option (Int32) :=
  (ldI 60 w (o + 5) a1).bind fun v1 =>
  lX6_high_9 o 4096 w a1 v1 0
def fX6_scoreOf (w : Wd) (o : Nat) (a1 : Int32) (a2 : Int32) : Option (Int32) :=
  (fX6_placeOf w o a1 a2).bind fun v1 =>
  if 0 ≤ v1 then
    (ldI 706 w (o + 1) ((240 + (40 * a1)) + v1)).bind fun v3 =>
    some v3
  else
    some 0
def lX6_low_4 (o : Nat) : Nat → Wd → Int32 → Int32 → Int32 → Option (Int32)
  | 0, _, _, _, _ => none
  | n + 1, w, x1, x2, x3 =>
    if 6 ≤ x3 then
      some x2
    else
      (fX6_isAsked w o x3).bind fun v2 =>
      if v2 = 0 then
        lX6_low_4 o n w x1 (x2 + 0) (x3 + 1)
      else
        (fX6_isKnown w o x3 x1).bind fun v4 =>
        if v4 = 0 then
          lX6_low_4 o n w x1 (x2 + 0) (x3 + 1)
        else
          (ldI 706 w (o + 1) (486 + x3)).bind fun v6 =>
          (fX6_scoreOf w o x3 x1).bind fun v7 =>
          lX6_low_4 o n w x1 (x2 + (v6 * v7)) (x3 + 1)
def fX6_low (w : Wd) (o : Nat) (a1 : Int32) : Option (Int32) :=
  lX6_low_4 o 4096 w a1 0 0
def lX6_reckon_2 (o : Nat) : Nat → Wd → Int32 → Option (Wd)
  | 0, _, _ => none
  | n + 1, w, x1 =>
    if 60 ≤ x1 then
      some w
    else
      (fX6_isSeen w o x1).bind fun v2 =>
      if v2 = 0 then
        (stI 60 w (o + 5) x1 0).bind fun w4 =>
        lX6_reckon_2 o n w4 (x1 + 1)
      else
        (fX6_low w o x1).bind fun v5 =>
        (stI 60 w (o + 5) x1 v5).bind fun w6 =>
        lX6_reckon_2 o n w6 (x1 + 1)
def fX6_reckon (w : Wd) (o : Nat)  : Option (Wd) :=
  lX6_reckon_2 o 4096 w 0
def lX6_seenMany_4 (o : Nat) : Nat → Wd → Int32 → Int32 → Option (Int32)
  | 0, _, _, _ => none
  | n + 1, w, x1, x2 =>
    if 60 ≤ x2 then
      some x1
    else
      (fX6_isSeen w o x2).bind fun v2 =>
      if v2 = 0 then
        lX6_seenMany_4 o n w (x1 + 0) (x2 + 1)
      else
        lX6_seenMany_4 o n w (x1 + 1) (x2 + 1)
def fX6_seenMany (w : Wd) (o : Nat)  : Option (Int32) :=
  lX6_seenMany_4 o 4096 w 0 0
def lX6_isOver_99 (o : Nat) : Nat → Wd → Int32 → Int32 → Int32 → Int32 → Option (Int32 × Wd)
  | 0, _, _, _, _, _ => none
  | n + 1, w, x2, x3, x4, x5 =>
    if 60 ≤ x5 then
      (rtZ x4).bind fun z => some (z, w)
    else
      if x4 = 0 then
        (rtZ x4).bind fun z => some (z, w)
      else
        (fX6_isSeen w o x5).bind fun v14 =>
        if v14 = 0 then
          lX6_isOver_99 o n w x2 x3 x4 (x5 + 1)
        else
          (fX6_frontPlace w o x5).bind fun v16 =>
          (ldI 706 w (o + 1) 558).bind fun v17 =>
          if v16 < v17 then
            lX6_isOver_99 o n w x2 x3 x4 (x5 + 1)
          else
            (fX6_high w o x5).bind fun v19 =>
            if v19 < x3 then
              lX6_isOver_99 o n w x2 x3 1 (x5 + 1)
            else
              if v19 = x3 then
                if x5 ≤ x2 then
                  lX6_isOver_99 o n w x2 x3 0 (x5 + 1)
                else
                  lX6_isOver_99 o n w x2 x3 1 (x5 + 1)
              else
                lX6_isOver_99 o n w x2 x3 0 (x5 + 1)
def lX6_isOver_4 (o : Nat) : Nat → Wd → Int32 → Int32 → Option (Int32 × Wd)
  | 0, _, _, _ => none
  | n + 1, w, x1, x2 =>
    if 6 ≤ x2 then
      if x1 = 0 then
        (rtZ 1).bind fun z => some (z, w)
      else
        (fX6_seenMany w o).bind fun v3 =>
        (ldI 706 w (o + 1) 558).bind fun v4 =>
        if v4 ≤ v3 then
          (fX6_reckon w o).bind fun w6 =>
          (ldI 706 w6 (o + 1) 558).bind fun v7 =>
          (fX6_frontAt w6 o (v7 - 1)).bind fun v8 =>
          (ldI 60 w6 (o + 5) v8).bind fun v9 =>
          (fX6_boundsTogether w6 o).bind fun v10 =>
          if v9 ≤ v10 then
            lX6_isOver_99 o 4096 w6 v8 v9 0 0
          else
            lX6_isOver_99 o 4096 w6 v8 v9 1 0
        else
          (rtZ 0).bind fun z => some (z, w)
    else
      (fX6_canBeRead w o x2).bind fun v23 =>
      if v23 = 0 then
        lX6_isOver_4 o n w (x1 + 0) (x2 + 1)
      else
        lX6_isOver_4 o n w (x1 + 1) (x2 + 1)
def fX6_isOver (w : Wd) (o : Nat)  : Option (Int32 × Wd) :=
  lX6_isOver_4 o 4096 w 0 0
def lX6_startReading_111 (o : Nat) : Nat → Wd → Int32 → Option (Wd)
  | 0, _, _ => none
  | n + 1, w, x3 =>
    if 60 ≤ x3 then
      ob2 (fX6_isOver w o) fun v10 w11 =>
      if v10 = 0 then
        (stI 706 w11 (o + 1) 562 0).bind fun w13 =>
        some w13
      else
        (stI 706 w11 (o + 1) 562 1).bind fun w14 =>
        some w14
    else
      (stI 706 w (o + 1) (586 + x3) 0).bind fun w15 =>
      (stI 706 w15 (o + 1) (646 + x3) 0).bind fun w16 =>
      lX6_startReading_111 o n w16 (x3 + 1)
def lX6_startReading_64 (o : Nat) : Nat → Wd → Int32 → Option (Wd)
  | 0, _, _ => none
  | n + 1, w, x3 =>
    if 6 ≤ x3 then
      lX6_startReading_111 o 4096 w 0
    else
      (stI 706 w (o + 1) (568 + x3) 0).bind fun w17 =>
      (stI 706 w17 (o + 1) (574 + x3) 0).bind fun w18 =>
      (stI 706 w18 (o + 1) (580 + x3) 0).bind fun w19 =>
      lX6_startReading_64 o n w19 (x3 + 1)
def fX6_startReading (w : Wd) (o : Nat) (a1 : Int32) (a2 : Int32) : Option (Wd) :=
  (stI 706 w (o + 1) 559 1).bind fun w1 =>
  (stI 706 w1 (o + 1) 560 a1).bind fun w2 =>
  if a2 = 0 then
    (stI 706 w2 (o + 1) 561 0).bind fun w4 =>
    (stI 706 w4 (o + 1) 563 (-1)).bind fun w5 =>
    (stI 706 w5 (o + 1) 564 0).bind fun w6 =>
    (stI 706 w6 (o + 1) 565 0).bind fun w7 =>
    lX6_startReading_64 o 4096 w7 0
  else
    (stI 706 w2 (o + 1) 561 1).bind fun w20 =>
    (stI 706 w20 (o + 1) 563 (-1)).bind fun w21 =>
    (stI 706 w21 (o + 1) 564 0).bind fun w22 =>
    (stI 706 w22 (o + 1) 565 0).bind fun w23 =>
    lX6_startReading_64 o 4096 w23 0
def fX6_begin (w : Wd) (o : Nat) (a1 : Int32) (a2 : Int32) : Option (Int32 × Wd) :=
  if a1 < 0 then
    some ((-2), w)
  else
    if a1 ≤ 2 then
      (ldI 706 w (o + 1) 559).bind fun v3 =>
      if v3 = 1 then
        some ((-4), w)
      else
        (fX6_asked w o).bind fun v5 =>
        if v5 = 0 then
          some ((-4), w)
        else
          (fX6_record w o).bind fun w7 =>
          (ldI 706 w7 (o + 1) 566).bind fun v8 =>
          (stI 706 w7 (o + 1) 566 (v8 + 1)).bind fun w9 =>
          (fX6_startReading w9 o a1 a2).bind fun w10 =>
          (ldI 706 w10 (o + 1) 562).bind fun v11 =>
          some (v11, w10)
    else
      some ((-2), w)
def lX6_bits_4 : Nat → Wd → Int32 → Int32 → Int32 → Option (Int32)
  | 0, _, _, _, _ => none
  | n + 1, w, x0, x1, x2 =>
    if 6 ≤ x2 then
      some x1
    else
      lX6_bits_4 n w x0 (x1 + ((x0 >>> (x2 &&& 31)) &&& 1)) (x2 + 1)
def fX6_bits (w : Wd) (a1 : Int32) : Option (Int32) :=
  lX6_bits_4 4096 w a1 0 0
def fX6_setOf (w : Wd) (o : Nat) (a1 : Int32) (a2 : Int32) (a3 : Int32) (a4 : Int32) : Option (Int32 × Wd) :=
  (fX6_isList w a2).bind fun v1 =>
  if v1 = 0 then
    some ((-1), w)
  else
    if a3 < 0 then
      some ((-2), w)
    else
      if a3 ≤ a4 then
        (ldI 706 w (o + 1) 559).bind fun v5 =>
        if v5 = 1 then
          some ((-4), w)
        else
          (ldI 706 w (o + 1) (a1 + a2)).bind fun v7 =>
          if v7 = a3 then
            some ((-5), w)
          else
            (fX6_record w o).bind fun w9 =>
            (stI 706 w9 (o + 1) (a1 + a2) a3).bind fun w10 =>
            some (v7, w10)
      else
        some ((-2), w)
def fX6_bribe (w : Wd) (o : Nat) (a1 : Int32) (a2 : Int32) : Option (Int32 × Wd) :=
  ob2 (fX6_setOf w o 492 a1 a2 500) fun v1 w2 =>
  some (v1, w2)
def lX6_listsOf_4 (o : Nat) : Nat → Wd → Int32 → Int32 → Int32 → Option (Int32)
  | 0, _, _, _, _ => none
  | n + 1, w, x1, x2, x3 =>
    if 6 ≤ x3 then
      some x2
    else
      (fX6_placeOf w o x3 x1).bind fun v2 =>
      if v2 < 0 then
        lX6_listsOf_4 o n w x1 (x2 ||| 0) (x3 + 1)
      else
        lX6_listsOf_4 o n w x1 (x2 ||| (1 <<< (x3 &&& 31))) (x3 + 1)
def fX6_listsOf (w : Wd) (o : Nat) (a1 : Int32) : Option (Int32) :=
  lX6_listsOf_4 o 4096 w a1 0 0
def fX6_gone (w : Wd) (o : Nat) (a1 : Int32) (a2 : Int32) : Option (Int32 × Wd) :=
  (fX6_isDocument w a1).bind fun v1 =>
  if v1 = 0 then
    some ((-1), w)
  else
    (ldI 706 w (o + 1) 559).bind fun v3 =>
    if v3 = 1 then
      some ((-4), w)
    else
      (ldI 706 w (o + 1) (498 + a1)).bind fun v5 =>
      if v5 = a2 then
        some ((-5), w)
      else
        (fX6_record w o).bind fun w7 =>
        (stI 706 w7 (o + 1) (498 + a1) a2).bind fun w8 =>
        (fX6_listsOf w8 o a1).bind fun v9 =>
        (fX6_bits w8 v9).bind fun v10 =>
        some (v10, w8)
def fX6_bring (w : Wd) (o : Nat) (a1 : Int32) : Option (Int32 × Wd) :=
  ob2 (fX6_gone w o a1 0) fun v1 w2 =>
  some (v1, w2)
def lX6_sumOf_4 (o : Nat) : Nat → Wd → Int32 → Int32 → Int32 → Option (Int32)
  | 0, _, _, _, _ => none
  | n + 1, w, x1, x2, x3 =>
    if 6 ≤ x3 then
      some x2
    else
      (ldI 706 w (o + 1) (x1 + x3)).bind fun v2 =>
      lX6_sumOf_4 o n w x1 (x2 + v2) (x3 + 1)
def fX6_sumOf (w : Wd) (o : Nat) (a1 : Int32) : Option (Int32) :=
  lX6_sumOf_4 o 4096 w a1 0 0
def fX6_cost (w : Wd) (o : Nat)  : Option (Int32) :=
  (ldI 706 w (o + 1) 564).bind fun v1 =>
  (fX6_sumOf w o 580).bind fun v2 =>
  some (v1 + (3 * v2))
def fX6_isChosenBefore (w : Wd) (o : Nat) (a1 : Int32) (a2 : Int32) : Option (Int32) :=
  (ldI 706 w (o + 1) 560).bind fun v1 =>
  if v1 = 0 then
    rtZ 0
  else
    (ldI 706 w (o + 1) 560).bind fun v3 =>
    if v3 = 1 then
      (ldI 706 w (o + 1) (486 + a1)).bind fun v8 =>
      (fX6_toldBound w o a1).bind fun v9 =>
      (ldI 706 w (o + 1) (486 + a2)).bind fun v10 =>
      (fX6_toldBound w o a2).bind fun v11 =>
      if (v8 * v9) ≤ (v10 * v11) then
        rtZ 0
      else
        rtZ 1
    else
      (fX6_left w o a1).bind fun v5 =>
      (fX6_left w o a2).bind fun v6 =>
      if v6 ≤ v5 then
        rtZ 0
      else
        rtZ 1
def lX6_nextList_4 (o : Nat) : Nat → Wd → Int32 → Int32 → Option (Int32)
  | 0, _, _, _ => none
  | n + 1, w, x1, x2 =>
    if 6 < x2 then
      some x1
    else
      (ldI 706 w (o + 1) 560).bind fun v2 =>
      if v2 = 0 then
        (ldI 706 w (o + 1) 563).bind fun v9 =>
        (fX6_canBeRead w o ((v9 + x2) - (v9 + x2) / 6 * 6)).bind fun v10 =>
        if v10 = 0 then
          lX6_nextList_4 o n w x1 (x2 + 1)
        else
          if x1 < 0 then
            lX6_nextList_4 o n w ((v9 + x2) - (v9 + x2) / 6 * 6) (x2 + 1)
          else
            (fX6_isChosenBefore w o ((v9 + x2) - (v9 + x2) / 6 * 6) x1).bind fun v13 =>
            if v13 = 0 then
              lX6_nextList_4 o n w x1 (x2 + 1)
            else
              lX6_nextList_4 o n w ((v9 + x2) - (v9 + x2) / 6 * 6) (x2 + 1)
      else
        (fX6_canBeRead w o (x2 - 1)).bind fun v4 =>
        if v4 = 0 then
          lX6_nextList_4 o n w x1 (x2 + 1)
        else
          if x1 < 0 then
            lX6_nextList_4 o n w (x2 - 1) (x2 + 1)
          else
            (fX6_isChosenBefore w o (x2 - 1) x1).bind fun v7 =>
            if v7 = 0 then
              lX6_nextList_4 o n w x1 (x2 + 1)
            else
              lX6_nextList_4 o n w (x2 - 1) (x2 + 1)
def fX6_nextList (w : Wd) (o : Nat)  : Option (Int32) :=
  lX6_nextList_4 o 4096 w (-1) 1
def lX6_sees_57 (o : Nat) : Nat → Wd → Int32 → Int32 → Int32 → Int32 → Option (Wd)
  | 0, _, _, _, _, _ => none
  | n + 1, w, x1, x2, x3, x4 =>
    if 6 ≤ x4 then
      some w
    else
      if x3 = 0 then
        lX6_sees_57 o n w x1 x2 x3 (x4 + 1)
      else
        (ldI 706 w (o + 1) 561).bind fun v7 =>
        if v7 = 1 then
          if x4 = x1 then
            lX6_sees_57 o n w x1 x2 x3 (x4 + 1)
          else
            (fX6_isAsked w o x4).bind fun v10 =>
            if v10 = 0 then
              lX6_sees_57 o n w x1 x2 x3 (x4 + 1)
            else
              (ldI 706 w (o + 1) (580 + x4)).bind fun v12 =>
              (stI 706 w (o + 1) (580 + x4) (v12 + 1)).bind fun w13 =>
              (ldI 706 w13 (o + 1) (646 + x2)).bind fun v14 =>
              (stI 706 w13 (o + 1) (646 + x2) (v14 ||| (1 <<< (x4 &&& 31)))).bind fun w15 =>
              lX6_sees_57 o n w15 x1 x2 x3 (x4 + 1)
        else
          lX6_sees_57 o n w x1 x2 x3 (x4 + 1)
def fX6_sees (w : Wd) (o : Nat) (a1 : Int32) (a2 : Int32) : Option (Wd) :=
  (fX6_isSeen w o a2).bind fun v1 =>
  if v1 = 0 then
    (ldI 706 w (o + 1) (646 + a2)).bind fun v16 =>
    (stI 706 w (o + 1) (646 + a2) (v16 ||| (1 <<< (a1 &&& 31)))).bind fun w17 =>
    (ldI 706 w17 (o + 1) 564).bind fun v18 =>
    (stI 706 w17 (o + 1) (586 + a2) (v18 + 1)).bind fun w19 =>
    lX6_sees_57 o 4096 w19 a1 a2 1 0
  else
    (ldI 706 w (o + 1) (646 + a2)).bind fun v3 =>
    (stI 706 w (o + 1) (646 + a2) (v3 ||| (1 <<< (a1 &&& 31)))).bind fun w4 =>
    lX6_sees_57 o 4096 w4 a1 a2 0 0
def bX6_oneStep_64 (w : Wd) (o : Nat) (x1 : Int32) (x2 : Int32) : Option (Wd) :=
  (ldI 706 w (o + 1) (568 + x1)).bind fun v7 =>
  (stI 706 w (o + 1) (568 + x1) (v7 + 1)).bind fun w8 =>
  (stI 706 w8 (o + 1) 563 x1).bind fun w9 =>
  (ldI 706 w9 (o + 1) (498 + x2)).bind fun v10 =>
  if v10 = 1 then
    (ldI 706 w9 (o + 1) 565).bind fun v20 =>
    (stI 706 w9 (o + 1) 565 (v20 + 1)).bind fun w21 =>
    (ldI 706 w21 (o + 1) 564).bind fun v22 =>
    (stI 706 w21 (o + 1) 564 (v22 + 1)).bind fun w23 =>
    ob2 (fX6_isOver w23 o) fun v24 w25 =>
    if v24 = 0 then
      (stI 706 w25 (o + 1) 562 0).bind fun w27 =>
      some w27
    else
      (stI 706 w25 (o + 1) 562 1).bind fun w28 =>
      some w28
  else
    (fX6_sees w9 o x1 x2).bind fun w12 =>
    (ldI 706 w12 (o + 1) 564).bind fun v13 =>
    (stI 706 w12 (o + 1) 564 (v13 + 1)).bind fun w14 =>
    ob2 (fX6_isOver w14 o) fun v15 w16 =>
    if v15 = 0 then
      (stI 706 w16 (o + 1) 562 0).bind fun w18 =>
      some w18
    else
      (stI 706 w16 (o + 1) 562 1).bind fun w19 =>
      some w19
def fX6_oneStep (w : Wd) (o : Nat)  : Option (Wd) :=
  (fX6_nextList w o).bind fun v1 =>
  (ldI 706 w (o + 1) (568 + v1)).bind fun v2 =>
  (ldI 706 w (o + 1) ((0 + (40 * v1)) + v2)).bind fun v3 =>
  (fX6_bound w o v1).bind fun v4 =>
  (fX6_toldBound w o v1).bind fun v5 =>
  if v4 ≤ v5 then
    bX6_oneStep_64 w o v1 v3
  else
    (stI 706 w (o + 1) (574 + v1) 1).bind fun w29 =>
    (ldI 706 w29 (o + 1) 567).bind fun v30 =>
    (stI 706 w29 (o + 1) 567 (v30 + 1)).bind fun w31 =>
    bX6_oneStep_64 w31 o v1 v3
def lX6_value_4 (o : Nat) : Nat → Wd → Int32 → Int32 → Int32 → Option (Int32)
  | 0, _, _, _, _ => none
  | n + 1, w, x1, x2, x3 =>
    if 6 ≤ x3 then
      some x2
    else
      (ldI 706 w (o + 1) (486 + x3)).bind fun v2 =>
      (fX6_scoreOf w o x3 x1).bind fun v3 =>
      lX6_value_4 o n w x1 (x2 + (v2 * v3)) (x3 + 1)
def fX6_value (w : Wd) (o : Nat) (a1 : Int32) : Option (Int32) :=
  lX6_value_4 o 4096 w a1 0 0
def fX6_mayBeWanted (w : Wd) (o : Nat) (a1 : Int32) : Option (Int32) :=
  (ldI 706 w (o + 1) (498 + a1)).bind fun v1 =>
  if v1 = 0 then
    (fX6_value w o a1).bind fun v3 =>
    if v3 ≤ 0 then
      rtZ 0
    else
      rtZ 1
  else
    rtZ 0
def lX6_wantedPlace_21 (o : Nat) : Nat → Wd → Int32 → Int32 → Int32 → Int32 → Option (Int32)
  | 0, _, _, _, _, _ => none
  | n + 1, w, x1, x2, x3, x4 =>
    if 60 ≤ x4 then
      (ldI 706 w (o + 1) 558).bind fun v5 =>
      if v5 ≤ x3 then
        some (-1)
      else
        some x3
    else
      (fX6_mayBeWanted w o x4).bind fun v7 =>
      if v7 = 0 then
        lX6_wantedPlace_21 o n w x1 x2 x3 (x4 + 1)
      else
        (fX6_value w o x4).bind fun v9 =>
        if x2 < v9 then
          lX6_wantedPlace_21 o n w x1 x2 (x3 + 1) (x4 + 1)
        else
          if v9 = x2 then
            if x1 ≤ x4 then
              lX6_wantedPlace_21 o n w x1 x2 (x3 + 0) (x4 + 1)
            else
              lX6_wantedPlace_21 o n w x1 x2 (x3 + 1) (x4 + 1)
          else
            lX6_wantedPlace_21 o n w x1 x2 (x3 + 0) (x4 + 1)
def fX6_wantedPlace (w : Wd) (o : Nat) (a1 : Int32) : Option (Int32) :=
  (fX6_mayBeWanted w o a1).bind fun v1 =>
  if v1 = 0 then
    some (-1)
  else
    (fX6_value w o a1).bind fun v3 =>
    lX6_wantedPlace_21 o 4096 w a1 v3 0 0
def lX6_toldNotWanted_8 (o : Nat) : Nat → Wd → Int32 → Int32 → Option (Int32 × Wd)
  | 0, _, _, _ => none
  | n + 1, w, x1, x2 =>
    if 60 ≤ x2 then
      some (x1, w)
    else
      (fX6_isSeen w o x2).bind fun v3 =>
      if v3 = 0 then
        lX6_toldNotWanted_8 o n w (x1 + 0) (x2 + 1)
      else
        (fX6_frontPlace w o x2).bind fun v5 =>
        (ldI 706 w (o + 1) 558).bind fun v6 =>
        if v6 ≤ v5 then
          lX6_toldNotWanted_8 o n w (x1 + 0) (x2 + 1)
        else
          (fX6_wantedPlace w o x2).bind fun v8 =>
          if 0 ≤ v8 then
            lX6_toldNotWanted_8 o n w (x1 + 0) (x2 + 1)
          else
            lX6_toldNotWanted_8 o n w (x1 + 1) (x2 + 1)
def fX6_toldNotWanted (w : Wd) (o : Nat)  : Option (Int32 × Wd) :=
  (fX6_reckon w o).bind fun w1 =>
  lX6_toldNotWanted_8 o 4096 w1 0 0
def lX6_tried_120 (o : Nat) : Nat → Wd → Int32 → Int32 → Option (Int32 × Wd)
  | 0, _, _, _ => none
  | n + 1, w, x4, x5 =>
    if 706 ≤ x5 then
      some (x4, w)
    else
      (ldI 706 w (o + 4) x5).bind fun v9 =>
      (stI 706 w (o + 1) x5 v9).bind fun w10 =>
      lX6_tried_120 o n w10 x4 (x5 + 1)
def lX6_tried_40 (o : Nat) : Nat → Wd → Int32 → Int32 → Option (Int32 × Wd)
  | 0, _, _, _ => none
  | n + 1, w, x3, x4 =>
    if 240 ≤ x4 then
      if x3 = 0 then
        (ldI 706 w (o + 1) 564).bind fun v14 =>
        lX6_tried_120 o 4096 w v14 0
      else
        if x3 = 1 then
          (fX6_cost w o).bind fun v13 =>
          lX6_tried_120 o 4096 w v13 0
        else
          if x3 = 2 then
            ob2 (fX6_toldNotWanted w o) fun v11 w12 =>
            lX6_tried_120 o 4096 w12 v11 0
          else
            (fX6_sumOf w o 574).bind fun v7 =>
            lX6_tried_120 o 4096 w v7 0
    else
      (ldI 706 w (o + 1) 562).bind fun v15 =>
      if v15 = 0 then
        (fX6_oneStep w o).bind fun w25 =>
        lX6_tried_40 o n w25 x3 (x4 + 1)
      else
        if x3 = 0 then
          (ldI 706 w (o + 1) 564).bind fun v24 =>
          lX6_tried_120 o 4096 w v24 0
        else
          if x3 = 1 then
            (fX6_cost w o).bind fun v23 =>
            lX6_tried_120 o 4096 w v23 0
          else
            if x3 = 2 then
              ob2 (fX6_toldNotWanted w o) fun v21 w22 =>
              lX6_tried_120 o 4096 w22 v21 0
            else
              (fX6_sumOf w o 574).bind fun v20 =>
              lX6_tried_120 o 4096 w v20 0
def lX6_tried_3 (o : Nat) : Nat → Wd → Int32 → Int32 → Int32 → Int32 → Option (Int32 × Wd)
  | 0, _, _, _, _, _ => none
  | n + 1, w, x1, x2, x3, x4 =>
    if 706 ≤ x4 then
      (fX6_startReading w o x1 x2).bind fun w2 =>
      lX6_tried_40 o 4096 w2 x3 0
    else
      (ldI 706 w (o + 1) x4).bind fun v26 =>
      (stI 706 w (o + 4) x4 v26).bind fun w27 =>
      lX6_tried_3 o n w27 x1 x2 x3 (x4 + 1)
def fX6_tried (w : Wd) (o : Nat) (a1 : Int32) (a2 : Int32) (a3 : Int32) : Option (Int32 × Wd) :=
  lX6_tried_3 o 4096 w a1 a2 a3 0
def lX6_cheapest_16 (o : Nat) : Nat → Wd → Int32 → Int32 → Int32 → Option (Int32 × Wd)
  | 0, _, _, _, _ => none
  | n + 1, w, x1, x2, x3 =>
    if 6 ≤ x3 then
      some (x1, w)
    else
      if (x3 - x3 / 2 * 2) = 1 then
        ob2 (fX6_tried w o (x3 / 2) 1 1) fun v9 w10 =>
        if x1 < 0 then
          lX6_cheapest_16 o n w10 x3 v9 (x3 + 1)
        else
          if x2 ≤ v9 then
            lX6_cheapest_16 o n w10 x1 x2 (x3 + 1)
          else
            lX6_cheapest_16 o n w10 x3 v9 (x3 + 1)
      else
        ob2 (fX6_tried w o (x3 / 2) 0 1) fun v5 w6 =>
        if x1 < 0 then
          lX6_cheapest_16 o n w6 x3 v5 (x3 + 1)
        else
          if x2 ≤ v5 then
            lX6_cheapest_16 o n w6 x1 x2 (x3 + 1)
          else
            lX6_cheapest_16 o n w6 x3 v5 (x3 + 1)
def fX6_cheapest (w : Wd) (o : Nat)  : Option (Int32 × Wd) :=
  (fX6_asked w o).bind fun v1 =>
  if v1 = 0 then
    some ((-4), w)
  else
    lX6_cheapest_16 o 4096 w (-1) 0 0
def fX6_clearText (w : Wd) (o : Nat)  : Option (Int32 × Wd) :=
  (pI w o 8 0).bind fun w1 =>
  some (w.1 o 8, w1)
def fX6_clerk (w : Wd) (o : Nat) (a1 : Int32) (a2 : Int32) : Option (Int32) :=
  (fX6_isList w a1).bind fun v1 =>
  if v1 = 0 then
    some (-1)
  else
    if a2 < 0 then
      some (-2)
    else
      if a2 ≤ 4 then
        (ldI 706 w (o + 1) 559).bind fun v5 =>
        if v5 = 0 then
          some (-4)
        else
          (fX6_isAsked w o a1).bind fun v7 =>
          if v7 = 0 then
            some (-5)
          else
            if a2 = 1 then
              (fX6_toldBound w o a1).bind fun v17 =>
              some v17
            else
              if a2 = 2 then
                (fX6_bound w o a1).bind fun v16 =>
                some v16
              else
                if a2 = 0 then
                  (ldI 706 w (o + 1) (568 + a1)).bind fun v15 =>
                  some v15
                else
                  if a2 = 3 then
                    (ldI 706 w (o + 1) (574 + a1)).bind fun v14 =>
                    some v14
                  else
                    (ldI 706 w (o + 1) (580 + a1)).bind fun v13 =>
                    some v13
      else
        some (-2)
def lX6_entries_4 (o : Nat) : Nat → Wd → Int32 → Int32 → Option (Int32)
  | 0, _, _, _ => none
  | n + 1, w, x1, x2 =>
    if 6 ≤ x2 then
      some x1
    else
      (ldI 706 w (o + 1) (480 + x2)).bind fun v2 =>
      lX6_entries_4 o n w (x1 + v2) (x2 + 1)
def fX6_entries (w : Wd) (o : Nat)  : Option (Int32) :=
  lX6_entries_4 o 4096 w 0 0
def lX6_wantedMany_4 (o : Nat) : Nat → Wd → Int32 → Int32 → Option (Int32)
  | 0, _, _, _ => none
  | n + 1, w, x1, x2 =>
    if 60 ≤ x2 then
      (ldI 706 w (o + 1) 558).bind fun v2 =>
      if v2 ≤ x1 then
        (ldI 706 w (o + 1) 558).bind fun v4 =>
        some v4
      else
        some x1
    else
      (fX6_mayBeWanted w o x2).bind fun v5 =>
      if v5 = 0 then
        lX6_wantedMany_4 o n w (x1 + 0) (x2 + 1)
      else
        lX6_wantedMany_4 o n w (x1 + 1) (x2 + 1)
def fX6_wantedMany (w : Wd) (o : Nat)  : Option (Int32) :=
  lX6_wantedMany_4 o 4096 w 0 0
def lX6_count_87 (o : Nat) : Nat → Wd → Int32 → Int32 → Option (Int32)
  | 0, _, _, _ => none
  | n + 1, w, x2, x3 =>
    if 60 ≤ x3 then
      some x2
    else
      (ldI 706 w (o + 1) (498 + x3)).bind fun v11 =>
      lX6_count_87 o n w (x2 + v11) (x3 + 1)
def fX6_count (w : Wd) (o : Nat) (a1 : Int32) : Option (Int32) :=
  if a1 < 0 then
    some (-2)
  else
    if a1 ≤ 9 then
      if a1 = 0 then
        (fX6_entries w o).bind fun v4 =>
        some v4
      else
      if a1 = 1 then
        (fX6_asked w o).bind fun v6 =>
        some v6
      else
      if a1 = 2 then
        (ldI 706 w (o + 1) 558).bind fun v8 =>
        some v8
      else
      if a1 = 3 then
        lX6_count_87 o 4096 w 0 0
      else
      if a1 = 4 then
        (fX6_wantedMany w o).bind fun v13 =>
        some v13
      else
      if a1 = 5 then
        (ldI 706 w (o + 1) 559).bind fun v15 =>
        some v15
      else
      if a1 = 6 then
        (ldI 706 w (o + 1) 566).bind fun v17 =>
        some v17
      else
      if a1 = 7 then
        (ldI 706 w (o + 1) 567).bind fun v19 =>
        some v19
      else
      if a1 = 8 then
        some (w.1 o 5)
      else
      some (w.1 o 8)
    else
      some (-2)
def fX6_delete (w : Wd) (o : Nat) (a1 : Int32) : Option (Int32 × Wd) :=
  ob2 (fX6_gone w o a1 1) fun v1 w2 =>
  some (v1, w2)
def fX6_document (w : Wd) (o : Nat) (a1 : Int32) (a2 : Int32) : Option (Int32) :=
  (fX6_isDocument w a1).bind fun v1 =>
  if v1 = 0 then
    some (-1)
  else
    if a2 < 0 then
      some (-2)
    else
      if a2 ≤ 3 then
        if a2 = 0 then
          (ldI 706 w (o + 1) (498 + a1)).bind fun v12 =>
          some v12
        else
          if a2 = 1 then
            (fX6_value w o a1).bind fun v11 =>
            some v11
          else
            if a2 = 2 then
              (fX6_listsOf w o a1).bind fun v10 =>
              some v10
            else
              (fX6_wantedPlace w o a1).bind fun v8 =>
              if 0 ≤ v8 then
                some v8
              else
                some (-5)
      else
        some (-2)
def fX6_drop (w : Wd) (o : Nat) (a1 : Int32) (a2 : Int32) : Option (Int32 × Wd) :=
  (fX6_isList w a1).bind fun v1 =>
  if v1 = 0 then
    some ((-1), w)
  else
    (fX6_isDocument w a2).bind fun v3 =>
    if v3 = 0 then
      some ((-1), w)
    else
      (fX6_placeOf w o a1 a2).bind fun v5 =>
      if 0 ≤ v5 then
        (ldI 706 w (o + 1) 559).bind fun v7 =>
        if v7 = 1 then
          some ((-4), w)
        else
          (fX6_record w o).bind fun w9 =>
          (fX6_takeOut w9 o a1 v5).bind fun w10 =>
          (ldI 706 w10 (o + 1) (480 + a1)).bind fun v11 =>
          some (v11, w10)
      else
        some ((-1), w)
def fX6_want (w : Wd) (o : Nat) (a1 : Int32) : Option (Int32 × Wd) :=
  if a1 < 1 then
    some ((-2), w)
  else
    if a1 ≤ 10 then
      (ldI 706 w (o + 1) 559).bind fun v3 =>
      if v3 = 1 then
        some ((-4), w)
      else
        (ldI 706 w (o + 1) 558).bind fun v5 =>
        if v5 = a1 then
          some ((-5), w)
        else
          (fX6_record w o).bind fun w7 =>
          (stI 706 w7 (o + 1) 558 a1).bind fun w8 =>
          some (v5, w8)
    else
      some ((-2), w)
def fX6_weight (w : Wd) (o : Nat) (a1 : Int32) (a2 : Int32) : Option (Int32 × Wd) :=
  ob2 (fX6_setOf w o 486 a1 a2 9) fun v1 w2 =>
  some (v1, w2)
def fX6_does (w : Wd) (o : Nat) (a1 : Int32) : Option (Int32 × Wd) :=
  if a1 = 0 then
    (ldI 3 w (o + 7) 0).bind fun v2 =>
    (ldI 3 w (o + 7) 1).bind fun v3 =>
    (ldI 3 w (o + 7) 2).bind fun v4 =>
    ob2 (fX6_add w o v2 v3 v4) fun v5 w6 =>
    some (v5, w6)
  else
  if a1 = 1 then
    (ldI 3 w (o + 7) 0).bind fun v8 =>
    (ldI 3 w (o + 7) 1).bind fun v9 =>
    ob2 (fX6_drop w o v8 v9) fun v10 w11 =>
    some (v10, w11)
  else
  if a1 = 2 then
    (ldI 3 w (o + 7) 0).bind fun v13 =>
    (ldI 3 w (o + 7) 1).bind fun v14 =>
    ob2 (fX6_weight w o v13 v14) fun v15 w16 =>
    some (v15, w16)
  else
  if a1 = 3 then
    (ldI 3 w (o + 7) 0).bind fun v18 =>
    (ldI 3 w (o + 7) 1).bind fun v19 =>
    ob2 (fX6_bribe w o v18 v19) fun v20 w21 =>
    some (v20, w21)
  else
  if a1 = 4 then
    (ldI 3 w (o + 7) 0).bind fun v23 =>
    ob2 (fX6_delete w o v23) fun v24 w25 =>
    some (v24, w25)
  else
  if a1 = 5 then
    (ldI 3 w (o + 7) 0).bind fun v27 =>
    ob2 (fX6_bring w o v27) fun v28 w29 =>
    some (v28, w29)
  else
  (ldI 3 w (o + 7) 0).bind fun v30 =>
  ob2 (fX6_want w o v30) fun v31 w32 =>
  some (v31, w32)
def fX6_toldMany (w : Wd) (o : Nat)  : Option (Int32) :=
  (fX6_seenMany w o).bind fun v1 =>
  (ldI 706 w (o + 1) 558).bind fun v2 =>
  if v2 ≤ v1 then
    (ldI 706 w (o + 1) 558).bind fun v4 =>
    some v4
  else
    some v1
def fX6_end (w : Wd) (o : Nat)  : Option (Int32 × Wd) :=
  (ldI 706 w (o + 1) 559).bind fun v1 =>
  if v1 = 0 then
    some ((-4), w)
  else
    (fX6_record w o).bind fun w3 =>
    (fX6_toldMany w3 o).bind fun v4 =>
    (stI 706 w3 (o + 1) 559 0).bind fun w5 =>
    some (v4, w5)
def fX6_entry (w : Wd) (o : Nat) (a1 : Int32) (a2 : Int32) (a3 : Int32) : Option (Int32) :=
  (fX6_isList w a1).bind fun v1 =>
  if v1 = 0 then
    some (-1)
  else
    if a2 < 0 then
      some (-2)
    else
      if a3 < 0 then
        some (-2)
      else
        if a3 ≤ 1 then
          (ldI 706 w (o + 1) (480 + a1)).bind fun v6 =>
          if a2 < v6 then
            if a3 = 0 then
              (ldI 706 w (o + 1) ((0 + (40 * a1)) + a2)).bind fun v10 =>
              some v10
            else
              (ldI 706 w (o + 1) ((240 + (40 * a1)) + a2)).bind fun v9 =>
              some v9
          else
            some (-5)
        else
          some (-2)
def fX6_isDigit (w : Wd) (a1 : Int32) : Option (Int32) :=
  if a1 < 48 then
    rtZ 0
  else
    if 57 < a1 then
      rtZ 0
    else
      rtZ 1
def fX6_isSmall (w : Wd) (a1 : Int32) : Option (Int32) :=
  if a1 < 97 then
    rtZ 0
  else
    if 122 < a1 then
      rtZ 0
    else
      rtZ 1
def fX6_spells (w : Wd) (o : Nat) (a1 : Int32) (a2 : Int32) (a3 : Int32) (a4 : Int32) : Option (Int32) :=
  (ldI 40 w (o + 6) a4).bind fun v1 =>
  if v1 = a1 then
    (ldI 40 w (o + 6) (a4 + 1)).bind fun v3 =>
    if v3 = a2 then
      (ldI 40 w (o + 6) (a4 + 2)).bind fun v5 =>
      if v5 = a3 then
        rtZ 1
      else
        rtZ 0
    else
      rtZ 0
  else
    rtZ 0
def fX6_isWord (w : Wd) (o : Nat) (a1 : Int32) (a2 : Int32) : Option (Int32) :=
  if a1 = 0 then
    if a2 = 3 then
      (fX6_spells w o 97 100 100 0).bind fun v3 =>
      if v3 = 0 then
        rtZ 0
      else
        rtZ 1
    else
      rtZ 0
  else
  if a1 = 1 then
    if a2 = 4 then
      (fX6_spells w o 100 114 111 0).bind fun v7 =>
      if v7 = 0 then
        rtZ 0
      else
        (ldI 40 w (o + 6) 3).bind fun v9 =>
        if v9 = 112 then
          rtZ 1
        else
          rtZ 0
    else
      rtZ 0
  else
  if a1 = 2 then
    if a2 = 6 then
      (fX6_spells w o 119 101 105 0).bind fun v13 =>
      if v13 = 0 then
        rtZ 0
      else
        (fX6_spells w o 103 104 116 3).bind fun v15 =>
        if v15 = 0 then
          rtZ 0
        else
          rtZ 1
    else
      rtZ 0
  else
  if a1 = 3 then
    if a2 = 5 then
      (fX6_spells w o 98 114 105 0).bind fun v19 =>
      if v19 = 0 then
        rtZ 0
      else
        (ldI 40 w (o + 6) 3).bind fun v21 =>
        if v21 = 98 then
          (ldI 40 w (o + 6) 4).bind fun v23 =>
          if v23 = 101 then
            rtZ 1
          else
            rtZ 0
        else
          rtZ 0
    else
      rtZ 0
  else
  if a1 = 4 then
    if a2 = 6 then
      (fX6_spells w o 100 101 108 0).bind fun v27 =>
      if v27 = 0 then
        rtZ 0
      else
        (fX6_spells w o 101 116 101 3).bind fun v29 =>
        if v29 = 0 then
          rtZ 0
        else
          rtZ 1
    else
      rtZ 0
  else
  if a1 = 5 then
    if a2 = 5 then
      (fX6_spells w o 98 114 105 0).bind fun v33 =>
      if v33 = 0 then
        rtZ 0
      else
        (ldI 40 w (o + 6) 3).bind fun v35 =>
        if v35 = 110 then
          (ldI 40 w (o + 6) 4).bind fun v37 =>
          if v37 = 103 then
            rtZ 1
          else
            rtZ 0
        else
          rtZ 0
    else
      rtZ 0
  else
  if a2 = 4 then
    (fX6_spells w o 119 97 110 0).bind fun v40 =>
    if v40 = 0 then
      rtZ 0
    else
      (ldI 40 w (o + 6) 3).bind fun v42 =>
      if v42 = 116 then
        rtZ 1
      else
        rtZ 0
  else
    rtZ 0
def lX6_keep_7 (o : Nat) : Nat → Wd → Int32 → Option (Int32 × Wd)
  | 0, _, _ => none
  | n + 1, w, x1 =>
    if 706 ≤ x1 then
      (fX6_entries w o).bind fun v3 =>
      some (v3, w)
    else
      (ldI 706 w (o + 1) x1).bind fun v4 =>
      (stI 706 w (o + 3) x1 v4).bind fun w5 =>
      lX6_keep_7 o n w5 (x1 + 1)
def fX6_keep (w : Wd) (o : Nat)  : Option (Int32 × Wd) :=
  (stZ w o 6 1).bind fun w1 =>
  lX6_keep_7 o 4096 w1 0
def lX6_knownOf_4 (o : Nat) : Nat → Wd → Int32 → Int32 → Int32 → Option (Int32)
  | 0, _, _, _, _ => none
  | n + 1, w, x1, x2, x3 =>
    if 6 ≤ x3 then
      some x2
    else
      (fX6_isAsked w o x3).bind fun v2 =>
      if v2 = 0 then
        lX6_knownOf_4 o n w x1 (x2 ||| 0) (x3 + 1)
      else
        (fX6_isKnown w o x3 x1).bind fun v4 =>
        if v4 = 0 then
          lX6_knownOf_4 o n w x1 (x2 ||| 0) (x3 + 1)
        else
          lX6_knownOf_4 o n w x1 (x2 ||| (1 <<< (x3 &&& 31))) (x3 + 1)
def fX6_knownOf (w : Wd) (o : Nat) (a1 : Int32) : Option (Int32) :=
  lX6_knownOf_4 o 4096 w a1 0 0
def fX6_letter (w : Wd) (o : Nat) (a1 : Int32) : Option (Int32) :=
  if (w.1 o 8) ≤ a1 then
    some (-1)
  else
    (ldI 40 w (o + 6) a1).bind fun v2 =>
    some v2
def lX6_list_99 (o : Nat) : Nat → Wd → Int32 → Int32 → Int32 → Option (Int32)
  | 0, _, _, _, _ => none
  | n + 1, w, x1, x3, x4 =>
    (ldI 706 w (o + 1) (480 + x1)).bind fun v7 =>
    if v7 ≤ x4 then
      some x3
    else
      (ldI 706 w (o + 1) ((0 + (40 * x1)) + x4)).bind fun v9 =>
      (ldI 706 w (o + 1) (498 + v9)).bind fun v10 =>
      lX6_list_99 o n w x1 (x3 + v10) (x4 + 1)
def fX6_list (w : Wd) (o : Nat) (a1 : Int32) (a2 : Int32) : Option (Int32) :=
  (fX6_isList w a1).bind fun v1 =>
  if v1 = 0 then
    some (-1)
  else
    if a2 < 0 then
      some (-2)
    else
      if a2 ≤ 4 then
        if 3 ≤ a2 then
          if a2 = 3 then
            (ldI 706 w (o + 1) (480 + a1)).bind fun v11 =>
            if v11 = 0 then
              some 0
            else
              (ldI 706 w (o + 1) (240 + (40 * a1))).bind fun v13 =>
              some v13
          else
            lX6_list_99 o 4096 w a1 0 0
        else
          if a2 = 0 then
            (ldI 706 w (o + 1) (480 + a1)).bind fun v18 =>
            some v18
          else
            if a2 = 1 then
              (ldI 706 w (o + 1) (486 + a1)).bind fun v17 =>
              some v17
            else
              (ldI 706 w (o + 1) (492 + a1)).bind fun v16 =>
              some v16
      else
        some (-2)
def lX6_readNumber_78 (o : Nat) : Nat → Wd → Int32 → Int32 → Int32 → Int32 → Option (Wd)
  | 0, _, _, _, _, _ => none
  | n + 1, w, x1, x2, x3, x4 =>
    if x4 = 0 then
      (stI 3 w (o + 7) x1 x2).bind fun w12 =>
      some w12
    else
      if 3 ≤ x3 then
        (stI 3 w (o + 7) x1 x2).bind fun w14 =>
        some w14
      else
        (fX6_letter w o (w.1 o 9)).bind fun v15 =>
        (pI w o 9 ((w.1 o 9) + 1)).bind fun w16 =>
        if (((10 * x2) + v15) - 48) ≤ 0 then
          lX6_readNumber_78 o n w16 x1 (((10 * x2) + v15) - 48) (x3 + 1) 0
        else
          (fX6_letter w16 o (w16.1 o 9)).bind fun v18 =>
          (fX6_isDigit w16 v18).bind fun v19 =>
          if v19 = 0 then
            lX6_readNumber_78 o n w16 x1 (((10 * x2) + v15) - 48) (x3 + 1) 0
          else
            lX6_readNumber_78 o n w16 x1 (((10 * x2) + v15) - 48) (x3 + 1) 1
def fX6_readNumber (w : Wd) (o : Nat) (a1 : Int32) : Option (Wd) :=
  (fX6_letter w o (w.1 o 9)).bind fun v1 =>
  if v1 = 32 then
    (stZ w o 10 0).bind fun w3 =>
    if (bz (w3.1 o 10)) = 0 then
      (pI w3 o 9 ((w3.1 o 9) + 1)).bind fun w5 =>
      (fX6_letter w5 o (w5.1 o 9)).bind fun v6 =>
      (fX6_isDigit w5 v6).bind fun v7 =>
      if v7 = 0 then
        (stZ w5 o 10 1).bind fun w21 =>
        if (bz (w21.1 o 10)) = 0 then
          lX6_readNumber_78 o 4096 w21 a1 0 0 1
        else
          some w21
      else
        (stZ w5 o 10 0).bind fun w9 =>
        if (bz (w9.1 o 10)) = 0 then
          lX6_readNumber_78 o 4096 w9 a1 0 0 1
        else
          some w9
    else
      some w3
  else
    (stZ w o 10 1).bind fun w23 =>
    if (bz (w23.1 o 10)) = 0 then
      (pI w23 o 9 ((w23.1 o 9) + 1)).bind fun w25 =>
      (fX6_letter w25 o (w25.1 o 9)).bind fun v26 =>
      (fX6_isDigit w25 v26).bind fun v27 =>
      if v27 = 0 then
        (stZ w25 o 10 1).bind fun w31 =>
        if (bz (w31.1 o 10)) = 0 then
          lX6_readNumber_78 o 4096 w31 a1 0 0 1
        else
          some w31
      else
        (stZ w25 o 10 0).bind fun w29 =>
        if (bz (w29.1 o 10)) = 0 then
          lX6_readNumber_78 o 4096 w29 a1 0 0 1
        else
          some w29
    else
      some w23
def lX6_perform_98 (o : Nat) : Nat → Wd → Int32 → Int32 → Int32 → Option (Int32 × Wd)
  | 0, _, _, _, _ => none
  | n + 1, w, x2, x3, x4 =>
    if x3 ≤ x4 then
      if (bz (w.1 o 10)) = 0 then
        if (w.1 o 8) ≤ (w.1 o 9) then
          ob2 (fX6_does w o x2) fun v11 w12 =>
          some (v11, w12)
        else
          some ((-100) - (w.1 o 9), w)
      else
        some ((-100) - (w.1 o 9), w)
    else
      if (bz (w.1 o 10)) = 0 then
        (fX6_readNumber w o x4).bind fun w18 =>
        lX6_perform_98 o n w18 x2 x3 (x4 + 1)
      else
        if (bz (w.1 o 10)) = 0 then
          if (w.1 o 8) ≤ (w.1 o 9) then
            ob2 (fX6_does w o x2) fun v16 w17 =>
            some (v16, w17)
          else
            some ((-100) - (w.1 o 9), w)
        else
          some ((-100) - (w.1 o 9), w)
def lX6_perform_32 (o : Nat) : Nat → Wd → Int32 → Int32 → Int32 → Option (Int32 × Wd)
  | 0, _, _, _, _ => none
  | n + 1, w, x1, x2, x3 =>
    if 7 ≤ x3 then
      if 0 ≤ x2 then
        (pI w o 9 x1).bind fun w4 =>
        (stZ w4 o 10 0).bind fun w5 =>
        if x2 = 0 then
          lX6_perform_98 o 4096 w5 x2 3 0
        else
          if 4 ≤ x2 then
            lX6_perform_98 o 4096 w5 x2 1 0
          else
            lX6_perform_98 o 4096 w5 x2 2 0
      else
        some ((-100), w)
    else
      (fX6_isWord w o x3 x1).bind fun v19 =>
      if v19 = 0 then
        lX6_perform_32 o n w x1 x2 (x3 + 1)
      else
        lX6_perform_32 o n w x1 x3 (x3 + 1)
def lX6_perform_2 (o : Nat) : Nat → Wd → Int32 → Option (Int32 × Wd)
  | 0, _, _ => none
  | n + 1, w, x1 =>
    if (w.1 o 8) ≤ x1 then
      lX6_perform_32 o 4096 w x1 (-1) 0
    else
      (ldI 40 w (o + 6) x1).bind fun v21 =>
      (fX6_isSmall w v21).bind fun v22 =>
      if v22 = 0 then
        lX6_perform_32 o 4096 w x1 (-1) 0
      else
        lX6_perform_2 o n w (x1 + 1)
def fX6_perform (w : Wd) (o : Nat)  : Option (Int32 × Wd) :=
  lX6_perform_2 o 4096 w 0
def lX6_tellLess_4 (o : Nat) : Nat → Wd → Int32 → Int32 → Option (Int32)
  | 0, _, _, _ => none
  | n + 1, w, x1, x2 =>
    if 6 ≤ x2 then
      some x1
    else
      (fX6_isAsked w o x2).bind fun v2 =>
      if v2 = 0 then
        lX6_tellLess_4 o n w (x1 + 0) (x2 + 1)
      else
        (fX6_toldBound w o x2).bind fun v4 =>
        (fX6_bound w o x2).bind fun v5 =>
        if v5 ≤ v4 then
          lX6_tellLess_4 o n w (x1 + 0) (x2 + 1)
        else
          lX6_tellLess_4 o n w (x1 + 1) (x2 + 1)
def fX6_tellLess (w : Wd) (o : Nat)  : Option (Int32) :=
  lX6_tellLess_4 o 4096 w 0 0
def fX6_reading (w : Wd) (o : Nat) (a1 : Int32) : Option (Int32 × Wd) :=
  if a1 < 0 then
    some ((-2), w)
  else
    if a1 ≤ 12 then
      (ldI 706 w (o + 1) 559).bind fun v3 =>
      if v3 = 0 then
        some ((-4), w)
      else
        if a1 = 0 then
          (ldI 706 w (o + 1) 564).bind fun v6 =>
          some (v6, w)
        else
        if a1 = 1 then
          (ldI 706 w (o + 1) 565).bind fun v8 =>
          some (v8, w)
        else
        if a1 = 2 then
          (fX6_sumOf w o 580).bind fun v10 =>
          some (v10, w)
        else
        if a1 = 3 then
          (fX6_cost w o).bind fun v12 =>
          some (v12, w)
        else
        if a1 = 4 then
          (fX6_seenMany w o).bind fun v14 =>
          some (v14, w)
        else
        if a1 = 5 then
          (fX6_toldMany w o).bind fun v16 =>
          some (v16, w)
        else
        if a1 = 6 then
          (ldI 706 w (o + 1) 562).bind fun v18 =>
          some (v18, w)
        else
        if a1 = 7 then
          (ldI 706 w (o + 1) 562).bind fun v20 =>
          if v20 = 1 then
            some ((-5), w)
          else
            (fX6_nextList w o).bind fun v22 =>
            some (v22, w)
        else
        if a1 = 8 then
          (fX6_boundsTogether w o).bind fun v24 =>
          some (v24, w)
        else
        if a1 = 9 then
          (fX6_reckon w o).bind fun w26 =>
          (fX6_toldMany w26 o).bind fun v27 =>
          if v27 = 0 then
            some (0, w26)
          else
            (fX6_toldMany w26 o).bind fun v29 =>
            (fX6_frontAt w26 o (v29 - 1)).bind fun v30 =>
            (ldI 60 w26 (o + 5) v30).bind fun v31 =>
            some (v31, w26)
        else
        if a1 = 10 then
          (fX6_sumOf w o 574).bind fun v33 =>
          some (v33, w)
        else
        if a1 = 11 then
          ob2 (fX6_toldNotWanted w o) fun v35 w36 =>
          some (v35, w36)
        else
        (fX6_tellLess w o).bind fun v37 =>
        some (v37, w)
    else
      some ((-2), w)
def lX6_restore_16 (o : Nat) : Nat → Wd → Int32 → Option (Int32 × Wd)
  | 0, _, _ => none
  | n + 1, w, x1 =>
    if 706 ≤ x1 then
      (fX6_entries w o).bind fun v4 =>
      some (v4, w)
    else
      (ldI 706 w (o + 3) x1).bind fun v5 =>
      (stI 706 w (o + 1) x1 v5).bind fun w6 =>
      lX6_restore_16 o n w6 (x1 + 1)
def fX6_restore (w : Wd) (o : Nat)  : Option (Int32 × Wd) :=
  if (bz (w.1 o 6)) = 0 then
    some ((-5), w)
  else
    (fX6_record w o).bind fun w2 =>
    lX6_restore_16 o 4096 w2 0
def fX6_seen (w : Wd) (o : Nat) (a1 : Int32) (a2 : Int32) : Option (Int32 × Wd) :=
  (fX6_isDocument w a1).bind fun v1 =>
  if v1 = 0 then
    some ((-1), w)
  else
    if a2 < 0 then
      some ((-2), w)
    else
      if a2 ≤ 4 then
        (ldI 706 w (o + 1) 559).bind fun v5 =>
        if v5 = 0 then
          some ((-4), w)
        else
          (fX6_isSeen w o a1).bind fun v7 =>
          if v7 = 0 then
            some ((-5), w)
          else
            (fX6_reckon w o).bind fun w9 =>
            if 2 ≤ a2 then
              if a2 = 2 then
                (fX6_knownOf w9 o a1).bind fun v15 =>
                some (v15, w9)
              else
                if a2 = 3 then
                  (fX6_frontPlace w9 o a1).bind fun v14 =>
                  some (v14, w9)
                else
                  (ldI 706 w9 (o + 1) (586 + a1)).bind fun v13 =>
                  some (v13 - 1, w9)
            else
              if a2 = 0 then
                (ldI 60 w9 (o + 5) a1).bind fun v18 =>
                some (v18, w9)
              else
                (fX6_high w9 o a1).bind fun v17 =>
                some (v17, w9)
      else
        some ((-2), w)
def lX6_step_50 (o : Nat) : Nat → Wd → Int32 → Int32 → Option (Int32 × Wd)
  | 0, _, _, _ => none
  | n + 1, w, x1, x2 =>
    if x1 ≤ x2 then
      some (x2, w)
    else
      (ldI 706 w (o + 1) 562).bind fun v9 =>
      if v9 = 0 then
        (fX6_oneStep w o).bind fun w11 =>
        lX6_step_50 o n w11 x1 (x2 + 1)
      else
        some (x2, w)
def fX6_step (w : Wd) (o : Nat) (a1 : Int32) : Option (Int32 × Wd) :=
  if a1 < 1 then
    some ((-2), w)
  else
    if a1 ≤ 240 then
      (ldI 706 w (o + 1) 559).bind fun v3 =>
      if v3 = 0 then
        some ((-4), w)
      else
        (ldI 706 w (o + 1) 562).bind fun v5 =>
        if v5 = 1 then
          some ((-5), w)
        else
          (fX6_record w o).bind fun w7 =>
          lX6_step_50 o 4096 w7 a1 0
    else
      some ((-2), w)
def fX6_told (w : Wd) (o : Nat) (a1 : Int32) : Option (Int32 × Wd) :=
  if 0 ≤ a1 then
    (ldI 706 w (o + 1) 559).bind fun v2 =>
    if v2 = 0 then
      some ((-4), w)
    else
      (fX6_reckon w o).bind fun w4 =>
      (fX6_toldMany w4 o).bind fun v5 =>
      if v5 ≤ a1 then
        some ((-5), w4)
      else
        (fX6_frontAt w4 o a1).bind fun v7 =>
        some (v7, w4)
  else
    some ((-2), w)
def fX6_trial (w : Wd) (o : Nat) (a1 : Int32) (a2 : Int32) (a3 : Int32) : Option (Int32 × Wd) :=
  if a1 < 0 then
    some ((-2), w)
  else
    if 2 < a1 then
      some ((-2), w)
    else
      if a3 < 0 then
        some ((-2), w)
      else
        if a3 ≤ 3 then
          (fX6_asked w o).bind fun v5 =>
          if v5 = 0 then
            some ((-4), w)
          else
            ob2 (fX6_tried w o a1 a2 a3) fun v7 w8 =>
            some (v7, w8)
        else
          some ((-2), w)
def fX6_type (w : Wd) (o : Nat) (a1 : Int32) : Option (Int32 × Wd) :=
  if (w.1 o 8) = 40 then
    some ((-3), w)
  else
    (stC 40 w (o + 6) (w.1 o 8) a1).bind fun w2 =>
    (pI w2 o 8 ((w2.1 o 8) + 1)).bind fun w3 =>
    some (w3.1 o 8, w3)
def lX6_undo_22 (o : Nat) : Nat → Wd → Int32 → Option (Int32 × Wd)
  | 0, _, _ => none
  | n + 1, w, x1 =>
    if 706 ≤ x1 then
      some (w.1 o 5, w)
    else
      (ldI 2824 w (o + 2) (((w.1 o 5) * 706) + x1)).bind fun v4 =>
      (stI 706 w (o + 1) x1 v4).bind fun w5 =>
      lX6_undo_22 o n w5 (x1 + 1)
def fX6_undo (w : Wd) (o : Nat)  : Option (Int32 × Wd) :=
  if (w.1 o 5) = 0 then
    some ((-5), w)
  else
    (pI w o 5 ((w.1 o 5) - 1)).bind fun w2 =>
    lX6_undo_22 o 4096 w2 0
def lX6_wanted_12 (o : Nat) : Nat → Wd → Int32 → Int32 → Int32 → Option (Int32)
  | 0, _, _, _, _ => none
  | n + 1, w, x1, x2, x3 =>
    if 60 ≤ x3 then
      some x2
    else
      (fX6_wantedPlace w o x3).bind fun v3 =>
      if v3 = x1 then
        lX6_wanted_12 o n w x1 x3 (x3 + 1)
      else
        lX6_wanted_12 o n w x1 x2 (x3 + 1)
def fX6_wanted (w : Wd) (o : Nat) (a1 : Int32) : Option (Int32) :=
  if 0 ≤ a1 then
    lX6_wanted_12 o 4096 w a1 (-5) 0
  else
    some (-2)
