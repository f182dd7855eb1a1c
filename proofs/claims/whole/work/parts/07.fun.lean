/-! What each method computes, printed by program out of its bytecode: a function that fails where an index is outside its row. -/
noncomputable def f_X1_copyFrom  (p : PS) (q : PS) : Option (PS × PS) :=
  nm (P_u_beat p (P_beat q)) fun p_1 =>
  nm (P_u_strength p_1 (P_strength q)) fun p_2 =>
  nm (P_u_broken p_2 (P_broken q)) fun p_3 =>
  nm (P_u_size p_3 (P_size q)) fun p_4 =>
  nm (P_u_width p_4 (va_cpy (P_width q) (P_width p_4) 0 0 11)) fun p_5 =>
  nm (P_u_weight p_5 (va_cpy (P_weight q) (P_weight p_5) 0 0 11)) fun p_6 =>
  nm (P_u_verse p_6 (va_cpy (P_verse q) (P_verse p_6) 0 0 11)) fun p_7 =>
  nm (P_u_column p_7 (va_cpy (P_column q) (P_column p_7) 0 0 11)) fun p_8 =>
  nm (P_u_start p_8 (va_cpy (P_start q) (P_start p_8) 0 0 11)) fun p_9 =>
  nm (P_u_row p_9 (va_cpy (P_row q) (P_row p_9) 0 0 11)) fun p_10 =>
  nm (P_u_span p_10 (va_cpy (P_span q) (P_span p_10) 0 0 11)) fun p_11 =>
  nm (P_u_filled p_11 (va_cpy (P_filled q) (P_filled p_11) 0 0 16)) fun p_12 =>
  some (p_12, q)

noncomputable def f_X1_join  (p : PS) (y1 : Int32) (y2 : Int32) (y3 : Int32) (y4 : Int32) (y5 : Int32) : Option (Int32 × PS) :=
  if (P_size p) < 11 then
    nm ((P_size p)) fun x_2 =>
    nm (P_u_size p ((P_size p) + 1)) fun p_3 =>
    chk x_2 11 <|
    nm (P_u_width p_3 (upd (P_width p_3) (Int32.toNatClampNeg x_2) y1)) fun p_5 =>
    nm (P_u_weight p_5 (upd (P_weight p_5) (Int32.toNatClampNeg x_2) y2)) fun p_6 =>
    nm (P_u_verse p_6 (upd (P_verse p_6) (Int32.toNatClampNeg x_2) y4)) fun p_7 =>
    nm (P_u_column p_7 (upd (P_column p_7) (Int32.toNatClampNeg x_2) y3)) fun p_8 =>
    nm (P_u_start p_8 (upd (P_start p_8) (Int32.toNatClampNeg x_2) y5)) fun p_9 =>
    nm (P_u_row p_9 (upd (P_row p_9) (Int32.toNatClampNeg x_2) (-1))) fun p_10 =>
    nm (P_u_span p_10 (upd (P_span p_10) (Int32.toNatClampNeg x_2) ((((1 : Int32) <<< (y1 &&& 31)) - 1) <<< (y3 &&& 31)))) fun p_11 =>
    some (x_2, p_11)
  else
    some ((-1), p)

noncomputable def f_X1_isOnScreen  (p : PS) (y1 : Int32) : Option (Int32) :=
  if y1 < 0 then
    some 0
  else
    if (P_size p) ≤ y1 then
      some 0
    else
      chk y1 11 <|
      if ((P_row p) (Int32.toNatClampNeg y1)) < 0 then
        some 0
      else
        if 16 ≤ ((P_row p) (Int32.toNatClampNeg y1)) then
          some 0
        else
          some 1

noncomputable def f_X1_takeAway  (p : PS) (y1 : Int32) : Option (PS) :=
  bd (f_X1_isOnScreen p y1) fun x_2 =>
  if x_2 = 0 then
    chk y1 11 <|
    nm (P_u_row p (upd (P_row p) (Int32.toNatClampNeg y1) (-2))) fun p_5 =>
    some p_5
  else
    chk y1 11 <|
    chk ((P_row p) (Int32.toNatClampNeg y1)) 16 <|
    nm (P_u_filled p (upd (P_filled p) (Int32.toNatClampNeg ((P_row p) (Int32.toNatClampNeg y1))) (((P_filled p) (Int32.toNatClampNeg ((P_row p) (Int32.toNatClampNeg y1)))) &&& (((P_span p) (Int32.toNatClampNeg y1)) ^^^ (-1))))) fun p_8 =>
    nm (P_u_row p_8 (upd (P_row p_8) (Int32.toNatClampNeg y1) (-2))) fun p_9 =>
    some p_9

noncomputable def f_X1_takeVerseAway_s4  : Nat → PS → Int32 → Int32 → Int32 → Option (Int32 × PS)
  | 0, _, _, _, _ => none
  | n+1, p, v1, v2, v3 =>
    if (P_size p) ≤ v3 then
      some (v2, p)
    else
      chk v3 11 <|
      if ((P_verse p) (Int32.toNatClampNeg v3)) = v1 then
        if ((P_row p) (Int32.toNatClampNeg v3)) = (-2) then
          nm (v3 + 1) fun x_5 =>
          f_X1_takeVerseAway_s4 n p v1 v2 x_5
        else
          bd (f_X1_takeAway p v3) fun p_7 =>
          nm (v2 + 1) fun x_8 =>
          nm (v3 + 1) fun x_9 =>
          f_X1_takeVerseAway_s4 n p_7 v1 x_8 x_9
      else
        nm (v3 + 1) fun x_10 =>
        f_X1_takeVerseAway_s4 n p v1 v2 x_10
noncomputable def f_X1_takeVerseAway  (p : PS) (y1 : Int32) : Option (Int32 × PS) :=
  f_X1_takeVerseAway_s4 FU p y1 0 0

noncomputable def f_X1_isDue  (p : PS) (y1 : Int32) : Option (Int32) :=
  chk y1 11 <|
  if ((P_row p) (Int32.toNatClampNeg y1)) = (-1) then
    if (P_beat p) < ((P_start p) (Int32.toNatClampNeg y1)) then
      some 0
    else
      some 1
  else
    some 0

noncomputable def f_X1_keyOf  (p : PS) (y1 : Int32) (y2 : Int32) : Option (Int32) :=
  chk y2 11 <|
  some ((((y1 * 10) + ((P_weight p) (Int32.toNatClampNeg y2))) * 16) + ((10 : Int32) - y2))

noncomputable def f_X1_sortKeys_s2  : Nat → Nat → PS → Int32 → Int32 → Int32 → Int32 → Option (PS)
  | 0, _, _, _, _, _, _ => none
  | n+1, 0, p, v1, v2, _, _ =>
    if v1 ≤ v2 then
      some p
    else
      chk v2 11 <|
      nm ((P_keys p) (Int32.toNatClampNeg v2)) fun x_3 =>
      f_X1_sortKeys_s2 n 1 p v1 v2 x_3 v2
  | n+1, 1, p, v1, v2, v3, v4 =>
    if v4 ≤ 0 then
      chk v4 11 <|
      nm (P_u_keys p (upd (P_keys p) (Int32.toNatClampNeg v4) v3)) fun p_6 =>
      nm (v2 + 1) fun x_7 =>
      f_X1_sortKeys_s2 n 0 p_6 v1 x_7 0 0
    else
      chk (v4 - 1) 11 <|
      if v3 ≤ ((P_keys p) (Int32.toNatClampNeg (v4 - 1))) then
        chk v4 11 <|
        nm (P_u_keys p (upd (P_keys p) (Int32.toNatClampNeg v4) v3)) fun p_11 =>
        nm (v2 + 1) fun x_12 =>
        f_X1_sortKeys_s2 n 0 p_11 v1 x_12 0 0
      else
        chk v4 11 <|
        nm (P_u_keys p (upd (P_keys p) (Int32.toNatClampNeg v4) ((P_keys p) (Int32.toNatClampNeg (v4 - 1))))) fun p_14 =>
        nm (v4 + (-1)) fun x_15 =>
        f_X1_sortKeys_s2 n 1 p_14 v1 v2 v3 x_15
  | _+1, _, _, _, _, _, _ => none
noncomputable def f_X1_sortKeys  (p : PS) (y1 : Int32) : Option (PS) :=
  f_X1_sortKeys_s2 FU 0 p y1 1 0 0

noncomputable def f_X1_numberOf  (y0 : Int32) : Option (Int32) :=
  some (if (0 : Int32) < ((10 : Int32) - (y0 &&& 15)) then ((10 : Int32) - (y0 &&& 15)) else 0)

noncomputable def f_X1_letGo_s48  : Nat → PS → Int32 → Int32 → Option (PS)
  | 0, _, _, _ => none
  | n+1, p, v1, v2 =>
    if v1 ≤ v2 then
      some p
    else
      chk v2 11 <|
      bd (f_X1_numberOf ((P_keys p) (Int32.toNatClampNeg v2))) fun x_17 =>
      chk x_17 11 <|
      if (((P_filled p) (Int32.toNatClampNeg 0)) &&& ((P_span p) (Int32.toNatClampNeg x_17))) = 0 then
        nm (P_u_row p (upd (P_row p) (Int32.toNatClampNeg x_17) 0)) fun p_20 =>
        nm (P_u_filled p_20 (upd (P_filled p_20) (Int32.toNatClampNeg 0) (((P_filled p_20) (Int32.toNatClampNeg 0)) ||| ((P_span p_20) (Int32.toNatClampNeg x_17))))) fun p_21 =>
        nm (v2 + 1) fun x_22 =>
        f_X1_letGo_s48 n p_21 v1 x_22
      else
        nm (v2 + 1) fun x_23 =>
        f_X1_letGo_s48 n p v1 x_23
noncomputable def f_X1_letGo_b41  (p : PS) (v1 : Int32) : Option (PS) :=
  bd (f_X1_sortKeys p v1) fun p_13 =>
  f_X1_letGo_s48 FU p_13 v1 0
noncomputable def f_X1_letGo_s4  : Nat → PS → Int32 → Int32 → Option (PS)
  | 0, _, _, _ => none
  | n+1, p, v1, v2 =>
    if (P_size p) ≤ v2 then
      f_X1_letGo_b41 p v1
    else
      bd (f_X1_isDue p v2) fun x_3 =>
      if x_3 = 0 then
        nm (v2 + 1) fun x_5 =>
        f_X1_letGo_s4 n p v1 x_5
      else
        bd (f_X1_keyOf p 0 v2) fun x_7 =>
        chk v1 11 <|
        nm (P_u_keys p (upd (P_keys p) (Int32.toNatClampNeg v1) x_7)) fun p_9 =>
        nm (v1 + 1) fun x_10 =>
        nm (v2 + 1) fun x_11 =>
        f_X1_letGo_s4 n p_9 x_10 x_11
noncomputable def f_X1_letGo  (p : PS) : Option (PS) :=
  f_X1_letGo_s4 FU p 0 0

noncomputable def f_X1_isFreeBeside  (p : PS) (y1 : Int32) (y2 : Int32) : Option (Int32) :=
  chk y1 11 <|
  nm ((P_row p) (Int32.toNatClampNeg y1)) fun x_2 =>
  if y2 = 0 then
    nm (((P_column p) (Int32.toNatClampNeg y1)) - 1) fun x_4 =>
    if x_2 < 0 then
      some 0
    else
      if 16 ≤ x_2 then
        some 0
      else
        if x_4 < 0 then
          some 0
        else
          if 24 ≤ x_4 then
            some 0
          else
            chk x_2 16 <|
            if ((((P_filled p) (Int32.toNatClampNeg x_2)) >>> (x_4 &&& 31)) &&& 1) = 0 then
              some 1
            else
              some 0
  else
    nm (((P_column p) (Int32.toNatClampNeg y1)) + ((P_width p) (Int32.toNatClampNeg y1))) fun x_16 =>
    if x_2 < 0 then
      some 0
    else
      if 16 ≤ x_2 then
        some 0
      else
        if x_16 < 0 then
          some 0
        else
          if 24 ≤ x_16 then
            some 0
          else
            chk x_2 16 <|
            if ((((P_filled p) (Int32.toNatClampNeg x_2)) >>> (x_16 &&& 31)) &&& 1) = 0 then
              some 1
            else
              some 0

noncomputable def f_X1_stepOf  (p : PS) (y1 : Int32) : Option (Int32) :=
  chk y1 11 <|
  nm ((P_row p) (Int32.toNatClampNeg y1)) fun x_2 =>
  if x_2 < 0 then
    some 0
  else
    if x_2 < 15 then
      chk (x_2 + 1) 16 <|
      nm (((P_filled p) (Int32.toNatClampNeg (x_2 + 1))) &&& ((P_span p) (Int32.toNatClampNeg y1))) fun x_6 =>
      if x_6 = 0 then
        some 1
      else
        nm ((((2 : Int32) * ((P_column p) (Int32.toNatClampNeg y1))) + ((P_width p) (Int32.toNatClampNeg y1))) - 1) fun x_8 =>
        nm (((2 : Int32) <<< ((x_8 / 2) &&& 31)) - 1) fun x_9 =>
        if (x_6 &&& x_9) = 0 then
          bd (f_X1_isFreeBeside p y1 0) fun x_12 =>
          if x_12 = 0 then
            some 0
          else
            some 2
        else
          nm (x_6 >>> (((x_8 + 1) / 2) &&& 31)) fun x_14 =>
          if x_14 = 0 then
            bd (f_X1_isFreeBeside p y1 1) fun x_17 =>
            if x_17 = 0 then
              some 0
            else
              some 3
          else
            some 0
    else
      some 0

noncomputable def f_X1_fall  (p : PS) (y1 : Int32) : Option (PS) :=
  chk y1 11 <|
  nm ((P_row p) (Int32.toNatClampNeg y1)) fun x_2 =>
  if x_2 < 0 then
    some p
  else
    if x_2 < 15 then
      chk x_2 16 <|
      nm (P_u_filled p (upd (P_filled p) (Int32.toNatClampNeg x_2) (((P_filled p) (Int32.toNatClampNeg x_2)) &&& (((P_span p) (Int32.toNatClampNeg y1)) ^^^ (-1))))) fun p_6 =>
      chk (x_2 + 1) 16 <|
      nm (P_u_filled p_6 (upd (P_filled p_6) (Int32.toNatClampNeg (x_2 + 1)) (((P_filled p_6) (Int32.toNatClampNeg (x_2 + 1))) ||| ((P_span p_6) (Int32.toNatClampNeg y1))))) fun p_8 =>
      nm (P_u_row p_8 (upd (P_row p_8) (Int32.toNatClampNeg y1) (x_2 + 1))) fun p_9 =>
      some p_9
    else
      some p

noncomputable def f_X1_slide  (p : PS) (y1 : Int32) (y2 : Int32) : Option (PS) :=
  chk y1 11 <|
  nm ((P_row p) (Int32.toNatClampNeg y1)) fun x_2 =>
  if x_2 < 0 then
    some p
  else
    if x_2 < 16 then
      chk x_2 16 <|
      nm (P_u_filled p (upd (P_filled p) (Int32.toNatClampNeg x_2) (((P_filled p) (Int32.toNatClampNeg x_2)) &&& (((P_span p) (Int32.toNatClampNeg y1)) ^^^ (-1))))) fun p_6 =>
      if y2 = 0 then
        nm (P_u_span p_6 (upd (P_span p_6) (Int32.toNatClampNeg y1) (((P_span p_6) (Int32.toNatClampNeg y1)) >>> (1 &&& 31)))) fun p_8 =>
        nm (P_u_column p_8 (upd (P_column p_8) (Int32.toNatClampNeg y1) (((P_column p_8) (Int32.toNatClampNeg y1)) + (-1)))) fun p_10 =>
        nm (P_u_filled p_10 (upd (P_filled p_10) (Int32.toNatClampNeg x_2) (((P_filled p_10) (Int32.toNatClampNeg x_2)) ||| ((P_span p_10) (Int32.toNatClampNeg y1))))) fun p_11 =>
        some p_11
      else
        nm (P_u_span p_6 (upd (P_span p_6) (Int32.toNatClampNeg y1) (((P_span p_6) (Int32.toNatClampNeg y1)) <<< (1 &&& 31)))) fun p_12 =>
        nm (P_u_column p_12 (upd (P_column p_12) (Int32.toNatClampNeg y1) (((P_column p_12) (Int32.toNatClampNeg y1)) + 1))) fun p_14 =>
        nm (P_u_filled p_14 (upd (P_filled p_14) (Int32.toNatClampNeg x_2) (((P_filled p_14) (Int32.toNatClampNeg x_2)) ||| ((P_span p_14) (Int32.toNatClampNeg y1))))) fun p_15 =>
        some p_15
    else
      some p

noncomputable def f_X1_takeStep  (p : PS) (y1 : Int32) (y2 : Int32) : Option (PS) :=
  if y2 = 1 then
    bd (f_X1_fall p y1) fun p_3 =>
    some p_3
  else
    if y2 = 3 then
      bd (f_X1_slide p y1 1) fun p_6 =>
      some p_6
    else
      bd (f_X1_slide p y1 0) fun p_8 =>
      some p_8

noncomputable def f_X1_moveLines_s53  : Nat → Nat → PS → Int32 → Int32 → Int32 → Int32 → Int32 → Option (PS)
  | 0, _, _, _, _, _, _, _ => none
  | n+1, 0, p, v1, v2, _, _, _ =>
    if v1 ≤ v2 then
      some p
    else
      chk v2 11 <|
      bd (f_X1_numberOf ((P_keys p) (Int32.toNatClampNeg v2))) fun x_18 =>
      chk x_18 11 <|
      nm ((1 : Int32) + (((P_weight p) (Int32.toNatClampNeg x_18)) / 4)) fun x_20 =>
      f_X1_moveLines_s53 n 1 p v1 v2 x_18 x_20 0
  | n+1, 1, p, v1, v2, v3, v4, v5 =>
    if v4 ≤ v5 then
      nm (v2 + 1) fun x_22 =>
      f_X1_moveLines_s53 n 0 p v1 x_22 0 0 0
    else
      bd (f_X1_stepOf p v3) fun x_24 =>
      if x_24 = 0 then
        nm (v2 + 1) fun x_26 =>
        f_X1_moveLines_s53 n 0 p v1 x_26 0 0 0
      else
        bd (f_X1_takeStep p v3 x_24) fun p_28 =>
        nm (v5 + 1) fun x_29 =>
        f_X1_moveLines_s53 n 1 p_28 v1 v2 v3 v4 x_29
  | _+1, _, _, _, _, _, _, _ => none
noncomputable def f_X1_moveLines_b46  (p : PS) (v1 : Int32) : Option (PS) :=
  bd (f_X1_sortKeys p v1) fun p_14 =>
  f_X1_moveLines_s53 FU 0 p_14 v1 0 0 0 0
noncomputable def f_X1_moveLines_s4  : Nat → PS → Int32 → Int32 → Option (PS)
  | 0, _, _, _ => none
  | n+1, p, v1, v2 =>
    if (P_size p) ≤ v2 then
      f_X1_moveLines_b46 p v1
    else
      bd (f_X1_isOnScreen p v2) fun x_3 =>
      if x_3 = 0 then
        nm (v2 + 1) fun x_5 =>
        f_X1_moveLines_s4 n p v1 x_5
      else
        chk v2 11 <|
        bd (f_X1_keyOf p ((P_row p) (Int32.toNatClampNeg v2)) v2) fun x_8 =>
        chk v1 11 <|
        nm (P_u_keys p (upd (P_keys p) (Int32.toNatClampNeg v1) x_8)) fun p_10 =>
        nm (v1 + 1) fun x_11 =>
        nm (v2 + 1) fun x_12 =>
        f_X1_moveLines_s4 n p_10 x_11 x_12
noncomputable def f_X1_moveLines  (p : PS) : Option (PS) :=
  f_X1_moveLines_s4 FU p 0 0

noncomputable def f_X1_linesNear_s44  : Nat → PS → Int32 → Int32 → Int32 → Int32 → Option (Int32)
  | 0, _, _, _, _, _ => none
  | n+1, p, v1, v2, v3, v4 =>
    if (P_size p) ≤ v4 then
      some v3
    else
      chk v4 11 <|
      if ((P_row p) (Int32.toNatClampNeg v4)) = v2 then
        chk v1 11 <|
        if (((P_span p) (Int32.toNatClampNeg v4)) &&& ((P_span p) (Int32.toNatClampNeg v1))) = 0 then
          nm (v4 + 1) fun x_12 =>
          f_X1_linesNear_s44 n p v1 v2 v3 x_12
        else
          nm (v3 ||| ((1 : Int32) <<< (v4 &&& 31))) fun x_13 =>
          nm (v4 + 1) fun x_14 =>
          f_X1_linesNear_s44 n p v1 v2 x_13 x_14
      else
        nm (v4 + 1) fun x_15 =>
        f_X1_linesNear_s44 n p v1 v2 v3 x_15
noncomputable def f_X1_linesNear  (p : PS) (y1 : Int32) (y2 : Int32) : Option (Int32) :=
  chk y1 11 <|
  if ((P_row p) (Int32.toNatClampNeg y1)) < 0 then
    some 0
  else
    if y2 < 0 then
      some 0
    else
      if y2 < 16 then
        chk y2 16 <|
        if (((P_filled p) (Int32.toNatClampNeg y2)) &&& ((P_span p) (Int32.toNatClampNeg y1))) = 0 then
          some 0
        else
          f_X1_linesNear_s44 FU p y1 y2 0 0
      else
        some 0

noncomputable def f_X1_loadOf_s25  : Nat → PS → Int32 → Int32 → Int32 → Option (Int32)
  | 0, _, _, _, _ => none
  | n+1, p, v2, v3, v4 =>
    if (P_size p) ≤ v4 then
      some v3
    else
      if ((v2 >>> (v4 &&& 31)) &&& 1) = 0 then
        nm (v4 + 1) fun x_7 =>
        f_X1_loadOf_s25 n p v2 v3 x_7
      else
        chk v4 11 <|
        nm (v3 + ((P_weight p) (Int32.toNatClampNeg v4))) fun x_9 =>
        nm (v4 + 1) fun x_10 =>
        f_X1_loadOf_s25 n p v2 x_9 x_10
noncomputable def f_X1_loadOf  (p : PS) (y1 : Int32) : Option (Int32) :=
  chk y1 11 <|
  bd (f_X1_linesNear p y1 (((P_row p) (Int32.toNatClampNeg y1)) - 1)) fun x_3 =>
  if x_3 = 0 then
    some 0
  else
    f_X1_loadOf_s25 FU p x_3 0 0

noncomputable def f_X1_strengthOf  (p : PS) (y1 : Int32) : Option (Int32) :=
  chk y1 11 <|
  some ((P_strength p) * ((P_width p) (Int32.toNatClampNeg y1)))

noncomputable def f_X1_breakLines_s39  : Nat → PS → Int32 → Int32 → Option (PS)
  | 0, _, _, _ => none
  | n+1, p, v1, v2 =>
    if (P_size p) ≤ v2 then
      some p
    else
      if ((v1 >>> (v2 &&& 31)) &&& 1) = 0 then
        nm (v2 + 1) fun x_12 =>
        f_X1_breakLines_s39 n p v1 x_12
      else
        bd (f_X1_takeAway p v2) fun p_14 =>
        nm (P_u_broken p_14 ((P_broken p_14) + 1)) fun p_15 =>
        nm (v2 + 1) fun x_16 =>
        f_X1_breakLines_s39 n p_15 v1 x_16
noncomputable def f_X1_breakLines_s4  : Nat → PS → Int32 → Int32 → Option (PS)
  | 0, _, _, _ => none
  | n+1, p, v1, v2 =>
    if (P_size p) ≤ v2 then
      f_X1_breakLines_s39 FU p v1 0
    else
      bd (f_X1_loadOf p v2) fun x_3 =>
      bd (f_X1_strengthOf p v2) fun x_5 =>
      if x_3 ≤ x_5 then
        nm (v2 + 1) fun x_7 =>
        f_X1_breakLines_s4 n p v1 x_7
      else
        nm (v1 ||| ((1 : Int32) <<< (v2 &&& 31))) fun x_8 =>
        nm (v2 + 1) fun x_9 =>
        f_X1_breakLines_s4 n p x_8 x_9
noncomputable def f_X1_breakLines  (p : PS) : Option (PS) :=
  f_X1_breakLines_s4 FU p 0 0

noncomputable def f_X1_passBeat  (p : PS) : Option (PS) :=
  bd (f_X1_letGo p) fun p_2 =>
  bd (f_X1_moveLines p_2) fun p_4 =>
  bd (f_X1_breakLines p_4) fun p_6 =>
  nm (P_u_beat p_6 ((P_beat p_6) + 1)) fun p_7 =>
  some p_7

noncomputable def f_X1_isAtRest  (p : PS) (y1 : Int32) : Option (Int32) :=
  bd (f_X1_isOnScreen p y1) fun x_2 =>
  if x_2 = 0 then
    some 0
  else
    bd (f_X1_stepOf p y1) fun x_5 =>
    if x_5 = 0 then
      some 1
    else
      some 0

noncomputable def f_X1_isAllAtRest_s2  : Nat → PS → Int32 → Option (Int32)
  | 0, _, _ => none
  | n+1, p, v1 =>
    if (P_size p) ≤ v1 then
      some 1
    else
      bd (f_X1_isOnScreen p v1) fun x_3 =>
      if x_3 = 0 then
        bd (f_X1_isDue p v1) fun x_7 =>
        if x_7 = 0 then
          bd (f_X1_loadOf p v1) fun x_10 =>
          bd (f_X1_strengthOf p v1) fun x_12 =>
          if x_10 ≤ x_12 then
            nm (v1 + 1) fun x_14 =>
            f_X1_isAllAtRest_s2 n p x_14
          else
            some 0
        else
          some 0
      else
        bd (f_X1_isAtRest p v1) fun x_16 =>
        if x_16 = 0 then
          some 0
        else
          bd (f_X1_isDue p v1) fun x_21 =>
          if x_21 = 0 then
            bd (f_X1_loadOf p v1) fun x_24 =>
            bd (f_X1_strengthOf p v1) fun x_26 =>
            if x_24 ≤ x_26 then
              nm (v1 + 1) fun x_28 =>
              f_X1_isAllAtRest_s2 n p x_28
            else
              some 0
          else
            some 0
noncomputable def f_X1_isAllAtRest  (p : PS) : Option (Int32) :=
  f_X1_isAllAtRest_s2 FU p 0

noncomputable def f_X1_settle_b28  (p : PS) : Option (Int32 × PS) :=
  bd (f_X1_isAllAtRest p) fun x_9 =>
  if x_9 = 0 then
    some ((-1), p)
  else
    some (200, p)
noncomputable def f_X1_settle_s2  : Nat → PS → Int32 → Option (Int32 × PS)
  | 0, _, _ => none
  | n+1, p, v1 =>
    if 200 ≤ v1 then
      f_X1_settle_b28 p
    else
      bd (f_X1_isAllAtRest p) fun x_3 =>
      if x_3 = 0 then
        bd (f_X1_passBeat p) fun p_6 =>
        nm (v1 + 1) fun x_7 =>
        f_X1_settle_s2 n p_6 x_7
      else
        some (v1, p)
noncomputable def f_X1_settle  (p : PS) : Option (Int32 × PS) :=
  f_X1_settle_s2 FU p 0

noncomputable def f_X1_stateOf  (p : PS) (y1 : Int32) : Option (Int32) :=
  chk y1 11 <|
  if ((P_row p) (Int32.toNatClampNeg y1)) = (-2) then
    some 3
  else
    if ((P_row p) (Int32.toNatClampNeg y1)) = (-1) then
      some 0
    else
      bd (f_X1_isAtRest p y1) fun x_5 =>
      if x_5 = 0 then
        some 1
      else
        some 2

noncomputable def f_X1_placeOf_s14  : Nat → PS → Int32 → Int32 → Int32 → Option (Int32)
  | 0, _, _, _, _ => none
  | n+1, p, v1, v2, v3 =>
    if (P_size p) ≤ v3 then
      some v2
    else
      chk v3 11 <|
      chk v1 11 <|
      if ((P_row p) (Int32.toNatClampNeg v3)) = ((P_row p) (Int32.toNatClampNeg v1)) then
        if ((P_column p) (Int32.toNatClampNeg v1)) ≤ ((P_column p) (Int32.toNatClampNeg v3)) then
          bd (f_X1_isOnScreen p v3) fun x_10 =>
          if x_10 = 0 then
            nm (v3 + 1) fun x_12 =>
            f_X1_placeOf_s14 n p v1 v2 x_12
          else
            if ((P_row p) (Int32.toNatClampNeg v3)) < ((P_row p) (Int32.toNatClampNeg v1)) then
              nm (v2 + 1) fun x_14 =>
              nm (v3 + 1) fun x_15 =>
              f_X1_placeOf_s14 n p v1 x_14 x_15
            else
              nm (v3 + 1) fun x_17 =>
              f_X1_placeOf_s14 n p v1 v2 x_17
        else
          bd (f_X1_isOnScreen p v3) fun x_19 =>
          if x_19 = 0 then
            nm (v3 + 1) fun x_21 =>
            f_X1_placeOf_s14 n p v1 v2 x_21
          else
            if ((P_row p) (Int32.toNatClampNeg v3)) < ((P_row p) (Int32.toNatClampNeg v1)) then
              nm (v2 + 1) fun x_23 =>
              nm (v3 + 1) fun x_24 =>
              f_X1_placeOf_s14 n p v1 x_23 x_24
            else
              nm (v2 + 1) fun x_26 =>
              nm (v3 + 1) fun x_27 =>
              f_X1_placeOf_s14 n p v1 x_26 x_27
      else
        bd (f_X1_isOnScreen p v3) fun x_29 =>
        if x_29 = 0 then
          nm (v3 + 1) fun x_31 =>
          f_X1_placeOf_s14 n p v1 v2 x_31
        else
          if ((P_row p) (Int32.toNatClampNeg v3)) < ((P_row p) (Int32.toNatClampNeg v1)) then
            nm (v2 + 1) fun x_33 =>
            nm (v3 + 1) fun x_34 =>
            f_X1_placeOf_s14 n p v1 x_33 x_34
          else
            nm (v3 + 1) fun x_36 =>
            f_X1_placeOf_s14 n p v1 v2 x_36
noncomputable def f_X1_placeOf  (p : PS) (y1 : Int32) : Option (Int32) :=
  bd (f_X1_isOnScreen p y1) fun x_2 =>
  if x_2 = 0 then
    some (-1)
  else
    f_X1_placeOf_s14 FU p y1 0 0

noncomputable def f_X1_readAt_s2  : Nat → PS → Int32 → Int32 → Option (Int32)
  | 0, _, _, _ => none
  | n+1, p, v1, v2 =>
    if (P_size p) ≤ v2 then
      some (-1)
    else
      bd (f_X1_isOnScreen p v2) fun x_3 =>
      if x_3 = 0 then
        nm (v2 + 1) fun x_5 =>
        f_X1_readAt_s2 n p v1 x_5
      else
        bd (f_X1_placeOf p v2) fun x_7 =>
        if x_7 = v1 then
          some v2
        else
          nm (v2 + 1) fun x_9 =>
          f_X1_readAt_s2 n p v1 x_9
noncomputable def f_X1_readAt  (p : PS) (y1 : Int32) : Option (Int32) :=
  f_X1_readAt_s2 FU p y1 0

noncomputable def f_X1_lineOn_s27  : Nat → PS → Int32 → Int32 → Int32 → Option (Int32)
  | 0, _, _, _, _ => none
  | n+1, p, v1, v2, v3 =>
    if (P_size p) ≤ v3 then
      some (-1)
    else
      chk v3 11 <|
      if ((P_row p) (Int32.toNatClampNeg v3)) = v1 then
        if ((((P_span p) (Int32.toNatClampNeg v3)) >>> (v2 &&& 31)) &&& 1) = 0 then
          nm (v3 + 1) fun x_9 =>
          f_X1_lineOn_s27 n p v1 v2 x_9
        else
          some v3
      else
        nm (v3 + 1) fun x_10 =>
        f_X1_lineOn_s27 n p v1 v2 x_10
noncomputable def f_X1_lineOn  (p : PS) (y1 : Int32) (y2 : Int32) : Option (Int32) :=
  if y1 < 0 then
    some (-1)
  else
    if 16 ≤ y1 then
      some (-1)
    else
      chk y1 16 <|
      if ((((P_filled p) (Int32.toNatClampNeg y1)) >>> (y2 &&& 31)) &&& 1) = 0 then
        some (-1)
      else
        f_X1_lineOn_s27 FU p y1 y2 0

noncomputable def f_X1_property  (p : PS) (y1 : Int32) (y2 : Int32) : Option (Int32) :=
  if y2 = Int32.ofInt 0 then
    chk y1 11 <|
    some ((P_width p) (Int32.toNatClampNeg y1))
  else
    if y2 = Int32.ofInt 1 then
      chk y1 11 <|
      some ((P_weight p) (Int32.toNatClampNeg y1))
    else
      if y2 = Int32.ofInt 2 then
        chk y1 11 <|
        some ((P_verse p) (Int32.toNatClampNeg y1))
      else
        if y2 = Int32.ofInt 3 then
          chk y1 11 <|
          some ((P_column p) (Int32.toNatClampNeg y1))
        else
          if y2 = Int32.ofInt 4 then
            chk y1 11 <|
            some ((P_start p) (Int32.toNatClampNeg y1))
          else
            if y2 = Int32.ofInt 5 then
              bd (f_X1_stateOf p y1) fun x_13 =>
              some x_13
            else
              if y2 = Int32.ofInt 6 then
                bd (f_X1_isOnScreen p y1) fun x_16 =>
                if x_16 = 0 then
                  some (-1)
                else
                  chk y1 11 <|
                  some ((P_row p) (Int32.toNatClampNeg y1))
              else
                if y2 = Int32.ofInt 7 then
                  bd (f_X1_loadOf p y1) fun x_21 =>
                  some x_21
                else
                  if y2 = Int32.ofInt 8 then
                    bd (f_X1_strengthOf p y1) fun x_24 =>
                    some x_24
                  else
                    if y2 = Int32.ofInt 9 then
                      chk y1 11 <|
                      bd (f_X1_linesNear p y1 (((P_row p) (Int32.toNatClampNeg y1)) + 1)) fun x_28 =>
                      some x_28
                    else
                      if y2 = Int32.ofInt 10 then
                        chk y1 11 <|
                        bd (f_X1_linesNear p y1 (((P_row p) (Int32.toNatClampNeg y1)) - 1)) fun x_32 =>
                        some x_32
                      else
                        bd (f_X1_placeOf p y1) fun x_34 =>
                        some x_34

noncomputable def f_X1_linesGone_s4  : Nat → PS → Int32 → Int32 → Option (Int32)
  | 0, _, _, _ => none
  | n+1, p, v1, v2 =>
    if (P_size p) ≤ v2 then
      some v1
    else
      chk v2 11 <|
      if ((P_row p) (Int32.toNatClampNeg v2)) = (-2) then
        nm (v1 + 1) fun x_4 =>
        nm (v2 + 1) fun x_5 =>
        f_X1_linesGone_s4 n p x_4 x_5
      else
        nm (v1 + 0) fun x_6 =>
        nm (v2 + 1) fun x_7 =>
        f_X1_linesGone_s4 n p x_6 x_7
noncomputable def f_X1_linesGone  (p : PS) : Option (Int32) :=
  f_X1_linesGone_s4 FU p 0 0

noncomputable def f_X1_linesOnScreen_s4  : Nat → PS → Int32 → Int32 → Option (Int32)
  | 0, _, _, _ => none
  | n+1, p, v1, v2 =>
    if (P_size p) ≤ v2 then
      some v1
    else
      bd (f_X1_isOnScreen p v2) fun x_3 =>
      if x_3 = 0 then
        nm (v1 + 0) fun x_5 =>
        nm (v2 + 1) fun x_6 =>
        f_X1_linesOnScreen_s4 n p x_5 x_6
      else
        nm (v1 + 1) fun x_7 =>
        nm (v2 + 1) fun x_8 =>
        f_X1_linesOnScreen_s4 n p x_7 x_8
noncomputable def f_X1_linesOnScreen  (p : PS) : Option (Int32) :=
  f_X1_linesOnScreen_s4 FU p 0 0

noncomputable def f_X1_linesAtRest_s4  : Nat → PS → Int32 → Int32 → Option (Int32)
  | 0, _, _, _ => none
  | n+1, p, v1, v2 =>
    if (P_size p) ≤ v2 then
      some v1
    else
      bd (f_X1_isAtRest p v2) fun x_3 =>
      if x_3 = 0 then
        nm (v1 + 0) fun x_5 =>
        nm (v2 + 1) fun x_6 =>
        f_X1_linesAtRest_s4 n p x_5 x_6
      else
        nm (v1 + 1) fun x_7 =>
        nm (v2 + 1) fun x_8 =>
        f_X1_linesAtRest_s4 n p x_7 x_8
noncomputable def f_X1_linesAtRest  (p : PS) : Option (Int32) :=
  f_X1_linesAtRest_s4 FU p 0 0

noncomputable def f_X1_topmostRow_s2  : Nat → PS → Int32 → Option (Int32)
  | 0, _, _ => none
  | n+1, p, v1 =>
    if 16 ≤ v1 then
      some (-1)
    else
      chk v1 16 <|
      if ((P_filled p) (Int32.toNatClampNeg v1)) = 0 then
        nm (v1 + 1) fun x_4 =>
        f_X1_topmostRow_s2 n p x_4
      else
        some v1
noncomputable def f_X1_topmostRow  (p : PS) : Option (Int32) :=
  f_X1_topmostRow_s2 FU p 0

noncomputable def f_X1_squares_s4  : Nat → PS → Int32 → Int32 → Option (Int32)
  | 0, _, _, _ => none
  | n+1, p, v1, v2 =>
    if (P_size p) ≤ v2 then
      some v1
    else
      bd (f_X1_isOnScreen p v2) fun x_3 =>
      if x_3 = 0 then
        nm (v1 + 0) fun x_5 =>
        nm (v2 + 1) fun x_6 =>
        f_X1_squares_s4 n p x_5 x_6
      else
        chk v2 11 <|
        nm (v1 + ((P_width p) (Int32.toNatClampNeg v2))) fun x_8 =>
        nm (v2 + 1) fun x_9 =>
        f_X1_squares_s4 n p x_8 x_9
noncomputable def f_X1_squares  (p : PS) : Option (Int32) :=
  f_X1_squares_s4 FU p 0 0

noncomputable def f_X1_greatestLoad_s4  : Nat → PS → Int32 → Int32 → Option (Int32)
  | 0, _, _, _ => none
  | n+1, p, v1, v2 =>
    if (P_size p) ≤ v2 then
      some v1
    else
      bd (f_X1_loadOf p v2) fun x_3 =>
      nm (if v1 < x_3 then x_3 else v1) fun x_4 =>
      nm (v2 + 1) fun x_5 =>
      f_X1_greatestLoad_s4 n p x_4 x_5
noncomputable def f_X1_greatestLoad  (p : PS) : Option (Int32) :=
  f_X1_greatestLoad_s4 FU p 0 0

noncomputable def f_X1_tally  (p : PS) (y1 : Int32) : Option (Int32) :=
  if y1 = Int32.ofInt 0 then
    some (P_beat p)
  else
    if y1 = Int32.ofInt 1 then
      some (P_size p)
    else
      if y1 = Int32.ofInt 2 then
        bd (f_X1_linesGone p) fun x_5 =>
        bd (f_X1_linesOnScreen p) fun x_7 =>
        some (((P_size p) - x_5) - x_7)
      else
        if y1 = Int32.ofInt 3 then
          bd (f_X1_linesOnScreen p) fun x_10 =>
          some x_10
        else
          if y1 = Int32.ofInt 4 then
            bd (f_X1_linesAtRest p) fun x_13 =>
            some x_13
          else
            if y1 = Int32.ofInt 5 then
              bd (f_X1_linesGone p) fun x_16 =>
              some x_16
            else
              if y1 = Int32.ofInt 6 then
                some (P_broken p)
              else
                if y1 = Int32.ofInt 7 then
                  bd (f_X1_topmostRow p) fun x_20 =>
                  some x_20
                else
                  if y1 = Int32.ofInt 8 then
                    bd (f_X1_squares p) fun x_23 =>
                    some x_23
                  else
                    if y1 = Int32.ofInt 9 then
                      bd (f_X1_isAllAtRest p) fun x_26 =>
                      if x_26 = 0 then
                        some 0
                      else
                        some 1
                    else
                      bd (f_X1_greatestLoad p) fun x_29 =>
                      some x_29

noncomputable def f_X2_add  (tx : TS) (y1 : Int32) : Option (TS) :=
  if 60 ≤ (T_length tx) then
    some tx
  else
    chk (T_length tx) 60 <|
    nm (T_u_codes tx (upd (T_codes tx) (Int32.toNatClampNeg (T_length tx)) y1)) fun tx_3 =>
    nm (T_u_length tx_3 ((T_length tx_3) + 1)) fun tx_4 =>
    some tx_4

noncomputable def f_X2_beginLine  (tx : TS) : Option (TS) :=
  nm (T_u_part tx 0) fun tx_1 =>
  nm (T_u_told tx_1 (upd (T_told tx_1) (Int32.toNatClampNeg 0) (-1))) fun tx_2 =>
  nm (T_u_told tx_2 (upd (T_told tx_2) (Int32.toNatClampNeg 3) 0)) fun tx_3 =>
  some tx_3

noncomputable def f_X2_leastOf  (y0 : Int32) : Option (Int32) :=
  if y0 = 0 then
    some 1
  else
    if y0 = 1 then
      some 1
    else
      some 0

noncomputable def f_X2_greatestOf  (y0 : Int32) : Option (Int32) :=
  if y0 = Int32.ofInt 0 then
    some 12
  else
    if y0 = Int32.ofInt 1 then
      some 9
    else
      if y0 = Int32.ofInt 2 then
        some 23
      else
        some 50

noncomputable def f_X2_acceptsDigit  (tx : TS) (y1 : Int32) : Option (Int32 × TS) :=
  chk (T_part tx) 4 <|
  nm ((T_told tx) (Int32.toNatClampNeg (T_part tx))) fun x_2 =>
  if x_2 = (-1) then
    if x_2 = 0 then
      some (0, tx)
    else
      bd (f_X2_leastOf (T_part tx)) fun x_6 =>
      if y1 < x_6 then
        some (0, tx)
      else
        bd (f_X2_greatestOf (T_part tx)) fun x_9 =>
        if y1 ≤ x_9 then
          nm (T_u_told tx (upd (T_told tx) (Int32.toNatClampNeg (T_part tx)) y1)) fun tx_11 =>
          some (1, tx_11)
        else
          some (0, tx)
  else
    nm ((x_2 * 10) + y1) fun x_12 =>
    if x_2 = 0 then
      some (0, tx)
    else
      bd (f_X2_leastOf (T_part tx)) fun x_15 =>
      if x_12 < x_15 then
        some (0, tx)
      else
        bd (f_X2_greatestOf (T_part tx)) fun x_18 =>
        if x_12 ≤ x_18 then
          nm (T_u_told tx (upd (T_told tx) (Int32.toNatClampNeg (T_part tx)) x_12)) fun tx_20 =>
          some (1, tx_20)
        else
          some (0, tx)

noncomputable def f_X2_signBehind  (y0 : Int32) : Option (Int32) :=
  if y0 = Int32.ofInt 0 then
    some 119
  else
    if y0 = Int32.ofInt 1 then
      some 64
    else
      some 43

noncomputable def f_X2_acceptsSign  (tx : TS) (y1 : Int32) : Option (Int32 × TS) :=
  chk (T_part tx) 4 <|
  if ((T_told tx) (Int32.toNatClampNeg (T_part tx))) = (-1) then
    some (0, tx)
  else
    if y1 = 59 then
      if (T_part tx) < 2 then
        if 3 ≤ (T_part tx) then
          some (0, tx)
        else
          bd (f_X2_signBehind (T_part tx)) fun x_7 =>
          if y1 = x_7 then
            nm (T_u_part tx ((T_part tx) + 1)) fun tx_9 =>
            chk (T_part tx_9) 4 <|
            nm (T_u_told tx_9 (upd (T_told tx_9) (Int32.toNatClampNeg (T_part tx_9)) (-1))) fun tx_11 =>
            some (1, tx_11)
          else
            some (0, tx)
      else
        bd (f_X2_beginLine tx) fun tx_13 =>
        some (1, tx_13)
    else
      if 3 ≤ (T_part tx) then
        some (0, tx)
      else
        bd (f_X2_signBehind (T_part tx)) fun x_16 =>
        if y1 = x_16 then
          nm (T_u_part tx ((T_part tx) + 1)) fun tx_18 =>
          chk (T_part tx_18) 4 <|
          nm (T_u_told tx_18 (upd (T_told tx_18) (Int32.toNatClampNeg (T_part tx_18)) (-1))) fun tx_20 =>
          some (1, tx_20)
        else
          some (0, tx)

noncomputable def f_X2_accepts  (tx : TS) (y1 : Int32) : Option (Int32 × TS) :=
  if y1 < 48 then
    bd2 (f_X2_acceptsSign tx y1) fun x_3 tx_4 =>
    chp (narrow .boolean (.int (x_3)) = .int (x_3)) <|
    some (x_3, tx_4)
  else
    if 57 < y1 then
      bd2 (f_X2_acceptsSign tx y1) fun x_8 tx_9 =>
      chp (narrow .boolean (.int (x_8)) = .int (x_8)) <|
      some (x_8, tx_9)
    else
      bd2 (f_X2_acceptsDigit tx (y1 - 48)) fun x_12 tx_13 =>
      chp (narrow .boolean (.int (x_12)) = .int (x_12)) <|
      some (x_12, tx_13)

noncomputable def f_X2_scan_s6  : Nat → TS → Int32 → Option (Int32 × TS)
  | 0, _, _ => none
  | n+1, tx, v1 =>
    if (T_length tx) ≤ v1 then
      some ((T_length tx), tx)
    else
      chk v1 60 <|
      bd2 (f_X2_accepts tx ((T_codes tx) (Int32.toNatClampNeg v1))) fun x_6 tx_7 =>
      if x_6 = 0 then
        some (v1, tx_7)
      else
        nm (v1 + 1) fun x_9 =>
        f_X2_scan_s6 n tx_7 x_9
noncomputable def f_X2_scan  (tx : TS) : Option (Int32 × TS) :=
  bd (f_X2_beginLine tx) fun tx_2 =>
  f_X2_scan_s6 FU tx_2 0

noncomputable def f_X2_tellsPoem  (tx : TS) : Option (Int32 × TS) :=
  bd2 (f_X2_scan tx) fun x_2 tx_3 =>
  if x_2 = (T_length tx_3) then
    if (T_part tx_3) < 2 then
      some (0, tx_3)
    else
      chk (T_part tx_3) 4 <|
      if ((T_told tx_3) (Int32.toNatClampNeg (T_part tx_3))) = (-1) then
        some (0, tx_3)
      else
        some (1, tx_3)
  else
    some (0, tx_3)

noncomputable def f_X2_scanLine_s10  : Nat → TS → Int32 → Option (Int32 × TS)
  | 0, _, _ => none
  | n+1, tx, v2 =>
    if (T_length tx) ≤ v2 then
      some ((T_length tx), tx)
    else
      chk v2 60 <|
      if ((T_codes tx) (Int32.toNatClampNeg v2)) = 59 then
        some (v2 + 1, tx)
      else
        bd2 (f_X2_accepts tx ((T_codes tx) (Int32.toNatClampNeg v2))) fun x_8 tx_9 =>
        nm (v2 + 1) fun x_10 =>
        f_X2_scanLine_s10 n tx_9 x_10
noncomputable def f_X2_scanLine  (tx : TS) (y1 : Int32) : Option (Int32 × TS) :=
  bd (f_X2_beginLine tx) fun tx_2 =>
  nm (if (0 : Int32) < y1 then y1 else 0) fun x_3 =>
  f_X2_scanLine_s10 FU tx_2 x_3

noncomputable def f_X4_thrown  (z : MS) : Option (Int32) :=
  some (M_thrown z)

noncomputable def f_X4_in  (y0 : Int32) (y1 : Int32) (y2 : Int32) : Option (Int32) :=
  if y0 < y1 then
    some 0
  else
    if y2 < y0 then
      some 0
    else
      some 1

noncomputable def f_X4_refuses  (z : MS) (y1 : Int32) : Option (Int32 × MS) :=
  nm (M_u_thrown z y1) fun z_1 =>
  if y1 ≤ 0 then
    some (0, z_1)
  else
    some (1, z_1)

noncomputable def f_X4_lays_s3 (n1 n2 : Nat) : Nat → (Nat → Int32) → (Nat → Int32) → Int32 → Int32 → Int32 → Option ((Nat → Int32) × (Nat → Int32))
  | 0, _, _, _, _, _ => none
  | n+1, f, g, v1, v3, v4 =>
    if 81 ≤ v4 then
      some (f, g)
    else
      chk (v1 + v4) n1 <|
      chk (v3 + v4) n2 <|
      nm (upd g (Int32.toNatClampNeg (v3 + v4)) (f (Int32.toNatClampNeg (v1 + v4)))) fun g_4 =>
      nm (v4 + 1) fun x_5 =>
      f_X4_lays_s3 n1 n2 n f g_4 v1 v3 x_5
noncomputable def f_X4_lays (n1 n2 : Nat) (f : Nat → Int32) (g : Nat → Int32) (y1 : Int32) (y3 : Int32) : Option ((Nat → Int32) × (Nat → Int32)) :=
  f_X4_lays_s3 n1 n2 FU f g y1 y3 0

noncomputable def f_X4_saves_b39  (z : MS) : Option (MS) :=
  nm (M_u_states z ((M_states z) - 1)) fun z_13 =>
  bd2 (f_X4_lays 81 486 (M_now z_13) (M_past z_13) 0 ((81 : Int32) * (M_states z_13))) fun zn_15 zn_16 =>
  nm (M_u_now z_13 zn_15) fun z_17 =>
  nm (M_u_past z_17 zn_16) fun z_18 =>
  nm (M_u_states z_18 ((M_states z_18) + 1)) fun z_19 =>
  some z_19
noncomputable def f_X4_saves_s11  : Nat → MS → Int32 → Option (MS)
  | 0, _, _ => none
  | n+1, z, v1 =>
    if 405 ≤ v1 then
      f_X4_saves_b39 z
    else
      chk (v1 + 81) 486 <|
      chk v1 486 <|
      nm (M_u_past z (upd (M_past z) (Int32.toNatClampNeg v1) ((M_past z) (Int32.toNatClampNeg (v1 + 81))))) fun z_11 =>
      nm (v1 + 1) fun x_12 =>
      f_X4_saves_s11 n z_11 x_12
noncomputable def f_X4_saves  (z : MS) : Option (MS) :=
  if (M_states z) = 6 then
    f_X4_saves_s11 FU z 0
  else
    bd2 (f_X4_lays 81 486 (M_now z) (M_past z) 0 ((81 : Int32) * (M_states z))) fun zn_3 zn_4 =>
    nm (M_u_now z zn_3) fun z_5 =>
    nm (M_u_past z_5 zn_4) fun z_6 =>
    nm (M_u_states z_6 ((M_states z_6) + 1)) fun z_7 =>
    some z_7

noncomputable def f_X4_undo  (z : MS) : Option (Int32 × MS) :=
  if (M_states z) = 0 then
    bd2 (f_X4_refuses z 1) fun x_3 z_4 =>
    if x_3 = 0 then
      nm (M_u_states z_4 ((M_states z_4) - 1)) fun z_6 =>
      bd2 (f_X4_lays 486 81 (M_past z_6) (M_now z_6) ((81 : Int32) * (M_states z_6)) 0) fun zn_8 zn_9 =>
      nm (M_u_past z_6 zn_8) fun z_10 =>
      nm (M_u_now z_10 zn_9) fun z_11 =>
      some ((M_states z_11), z_11)
    else
      some (0, z_4)
  else
    bd2 (f_X4_refuses z 0) fun x_13 z_14 =>
    if x_13 = 0 then
      nm (M_u_states z_14 ((M_states z_14) - 1)) fun z_16 =>
      bd2 (f_X4_lays 486 81 (M_past z_16) (M_now z_16) ((81 : Int32) * (M_states z_16)) 0) fun zn_18 zn_19 =>
      nm (M_u_past z_16 zn_18) fun z_20 =>
      nm (M_u_now z_20 zn_19) fun z_21 =>
      some ((M_states z_21), z_21)
    else
      some (0, z_14)

noncomputable def f_X4_of  (f : Nat → Int32) (y1 : Int32) (y2 : Int32) : Option (Int32) :=
  chk (((4 : Int32) + ((7 : Int32) * y1)) + y2) 81 <|
  some (f (Int32.toNatClampNeg (((4 : Int32) + ((7 : Int32) * y1)) + y2)))

noncomputable def f_X4_puts  (f : Nat → Int32) (y1 : Int32) (y2 : Int32) (y3 : Int32) : Option ((Nat → Int32)) :=
  chk (((4 : Int32) + ((7 : Int32) * y1)) + y2) 81 <|
  nm (upd f (Int32.toNatClampNeg (((4 : Int32) + ((7 : Int32) * y1)) + y2)) y3) fun f_2 =>
  some f_2

noncomputable def f_X4_isOn  (f : Nat → Int32) (y1 : Int32) : Option (Int32) :=
  bd (f_X4_of f y1 5) fun x_2 =>
  if x_2 = 1 then
    some 1
  else
    some 0

noncomputable def f_X4_span  (f : Nat → Int32) (y1 : Int32) : Option (Int32) :=
  bd (f_X4_of f y1 0) fun x_2 =>
  bd (f_X4_of f y1 3) fun x_4 =>
  some ((((1 : Int32) <<< (x_2 &&& 31)) - 1) <<< (x_4 &&& 31))

noncomputable def f_X4_full_s4  : Nat → (Nat → Int32) → Int32 → Int32 → Int32 → Option (Int32)
  | 0, _, _, _, _ => none
  | n+1, f, v1, v2, v3 =>
    chk 0 81 <|
    if (f (Int32.toNatClampNeg 0)) ≤ v3 then
      some v2
    else
      bd (f_X4_isOn f v3) fun x_4 =>
      if x_4 = 0 then
        nm (v2 ||| 0) fun x_6 =>
        nm (v3 + 1) fun x_7 =>
        f_X4_full_s4 n f v1 x_6 x_7
      else
        bd (f_X4_of f v3 6) fun x_9 =>
        if x_9 = v1 then
          bd (f_X4_span f v3) fun x_12 =>
          nm (v2 ||| x_12) fun x_13 =>
          nm (v3 + 1) fun x_14 =>
          f_X4_full_s4 n f v1 x_13 x_14
        else
          nm (v2 ||| 0) fun x_15 =>
          nm (v3 + 1) fun x_16 =>
          f_X4_full_s4 n f v1 x_15 x_16
noncomputable def f_X4_full  (f : Nat → Int32) (y1 : Int32) : Option (Int32) :=
  f_X4_full_s4 FU f y1 0 0

noncomputable def f_X4_isFree  (f : Nat → Int32) (y1 : Int32) (y2 : Int32) : Option (Int32) :=
  bd (f_X4_in y2 0 23) fun x_2 =>
  if x_2 = 0 then
    some 0
  else
    bd (f_X4_full f y1) fun x_5 =>
    if ((x_5 >>> (y2 &&& 31)) &&& 1) = 0 then
      some 1
    else
      some 0

noncomputable def f_X4_least_s2  : Nat → Int32 → Int32 → Option (Int32)
  | 0, _, _ => none
  | n+1, v0, v1 =>
    if ((v0 >>> (v1 &&& 31)) &&& 1) = 0 then
      nm (v1 + 1) fun x_2 =>
      f_X4_least_s2 n v0 x_2
    else
      some v1
noncomputable def f_X4_least  (y0 : Int32) : Option (Int32) :=
  f_X4_least_s2 FU y0 0

noncomputable def f_X4_greatest_s3  : Nat → Int32 → Int32 → Option (Int32)
  | 0, _, _ => none
  | n+1, v0, v1 =>
    if ((v0 >>> (v1 &&& 31)) &&& 1) = 0 then
      nm (v1 + (-1)) fun x_2 =>
      f_X4_greatest_s3 n v0 x_2
    else
      some v1
noncomputable def f_X4_greatest  (y0 : Int32) : Option (Int32) :=
  f_X4_greatest_s3 FU y0 23

noncomputable def f_X4_stepOf  (f : Nat → Int32) (y1 : Int32) : Option (Int32) :=
  bd (f_X4_of f y1 6) fun x_2 =>
  if x_2 = 15 then
    some 0
  else
    bd (f_X4_full f (x_2 + 1)) fun x_5 =>
    bd (f_X4_span f y1) fun x_7 =>
    nm (x_5 &&& x_7) fun x_8 =>
    if x_8 = 0 then
      some 1
    else
      bd (f_X4_of f y1 3) fun x_11 =>
      bd (f_X4_of f y1 0) fun x_13 =>
      nm ((x_11 + x_13) - 1) fun x_14 =>
      bd (f_X4_least x_8) fun x_16 =>
      if ((2 : Int32) * x_16) ≤ (x_11 + x_14) then
        bd (f_X4_greatest x_8) fun x_19 =>
        if (x_11 + x_14) ≤ ((2 : Int32) * x_19) then
          some 0
        else
          bd (f_X4_isFree f x_2 (x_14 + 1)) fun x_22 =>
          if x_22 = 0 then
            some 0
          else
            some 3
      else
        bd (f_X4_isFree f x_2 (x_11 - 1)) fun x_25 =>
        if x_25 = 0 then
          some 0
        else
          some 2

noncomputable def f_X4_isAtRest  (f : Nat → Int32) (y1 : Int32) : Option (Int32) :=
  bd (f_X4_isOn f y1) fun x_2 =>
  if x_2 = 0 then
    some 0
  else
    bd (f_X4_stepOf f y1) fun x_5 =>
    if x_5 = 0 then
      some 1
    else
      some 0

noncomputable def f_X4_isAbove  (f : Nat → Int32) (y1 : Int32) (y2 : Int32) : Option (Int32) :=
  bd (f_X4_isOn f y1) fun x_2 =>
  if x_2 = 0 then
    some 0
  else
    bd (f_X4_isOn f y2) fun x_5 =>
    if x_5 = 0 then
      some 0
    else
      bd (f_X4_of f y2 6) fun x_8 =>
      bd (f_X4_of f y1 6) fun x_10 =>
      if x_8 = (x_10 - 1) then
        bd (f_X4_span f y2) fun x_13 =>
        bd (f_X4_span f y1) fun x_15 =>
        if (x_13 &&& x_15) = 0 then
          some 0
        else
          some 1
      else
        some 0

noncomputable def f_X4_load_s4  : Nat → (Nat → Int32) → Int32 → Int32 → Int32 → Option (Int32)
  | 0, _, _, _, _ => none
  | n+1, f, v1, v2, v3 =>
    chk 0 81 <|
    if (f (Int32.toNatClampNeg 0)) ≤ v3 then
      some v2
    else
      bd (f_X4_isAbove f v1 v3) fun x_4 =>
      if x_4 = 0 then
        nm (v2 + 0) fun x_6 =>
        nm (v3 + 1) fun x_7 =>
        f_X4_load_s4 n f v1 x_6 x_7
      else
        bd (f_X4_of f v3 1) fun x_9 =>
        nm (v2 + x_9) fun x_10 =>
        nm (v3 + 1) fun x_11 =>
        f_X4_load_s4 n f v1 x_10 x_11
noncomputable def f_X4_load  (f : Nat → Int32) (y1 : Int32) : Option (Int32) :=
  f_X4_load_s4 FU f y1 0 0

noncomputable def f_X4_strength  (f : Nat → Int32) (y1 : Int32) : Option (Int32) :=
  chk 2 81 <|
  bd (f_X4_of f y1 0) fun x_3 =>
  some ((f (Int32.toNatClampNeg 2)) * x_3)

noncomputable def f_X4_isAllAtRest_s4  : Nat → (Nat → Int32) → Int32 → Int32 → Option (Int32)
  | 0, _, _, _ => none
  | n+1, f, v1, v2 =>
    chk 0 81 <|
    if (f (Int32.toNatClampNeg 0)) ≤ v2 then
      chp (narrow .boolean (.int (v1)) = .int (v1)) <|
      some v1
    else
      bd (f_X4_of f v2 5) fun x_5 =>
      if x_5 = 3 then
        if v1 = 0 then
          nm (v2 + 1) fun x_8 =>
          f_X4_isAllAtRest_s4 n f 0 x_8
        else
          nm (v2 + 1) fun x_10 =>
          f_X4_isAllAtRest_s4 n f 1 x_10
      else
        if x_5 = 0 then
          bd (f_X4_of f v2 4) fun x_13 =>
          chk 1 81 <|
          if (f (Int32.toNatClampNeg 1)) < x_13 then
            if v1 = 0 then
              nm (v2 + 1) fun x_17 =>
              f_X4_isAllAtRest_s4 n f 0 x_17
            else
              nm (v2 + 1) fun x_19 =>
              f_X4_isAllAtRest_s4 n f 1 x_19
          else
            bd (f_X4_isAtRest f v2) fun x_21 =>
            if x_21 = 0 then
              if v1 = 0 then
                nm (v2 + 1) fun x_24 =>
                f_X4_isAllAtRest_s4 n f 0 x_24
              else
                nm (v2 + 1) fun x_26 =>
                f_X4_isAllAtRest_s4 n f 0 x_26
            else
              bd (f_X4_load f v2) fun x_28 =>
              bd (f_X4_strength f v2) fun x_30 =>
              if x_30 < x_28 then
                if v1 = 0 then
                  nm (v2 + 1) fun x_33 =>
                  f_X4_isAllAtRest_s4 n f 0 x_33
                else
                  nm (v2 + 1) fun x_35 =>
                  f_X4_isAllAtRest_s4 n f 0 x_35
              else
                if v1 = 0 then
                  nm (v2 + 1) fun x_37 =>
                  f_X4_isAllAtRest_s4 n f 0 x_37
                else
                  nm (v2 + 1) fun x_39 =>
                  f_X4_isAllAtRest_s4 n f 1 x_39
        else
          bd (f_X4_isAtRest f v2) fun x_41 =>
          if x_41 = 0 then
            if v1 = 0 then
              nm (v2 + 1) fun x_44 =>
              f_X4_isAllAtRest_s4 n f 0 x_44
            else
              nm (v2 + 1) fun x_46 =>
              f_X4_isAllAtRest_s4 n f 0 x_46
          else
            bd (f_X4_load f v2) fun x_48 =>
            bd (f_X4_strength f v2) fun x_50 =>
            if x_50 < x_48 then
              if v1 = 0 then
                nm (v2 + 1) fun x_53 =>
                f_X4_isAllAtRest_s4 n f 0 x_53
              else
                nm (v2 + 1) fun x_55 =>
                f_X4_isAllAtRest_s4 n f 0 x_55
            else
              if v1 = 0 then
                nm (v2 + 1) fun x_57 =>
                f_X4_isAllAtRest_s4 n f 0 x_57
              else
                nm (v2 + 1) fun x_59 =>
                f_X4_isAllAtRest_s4 n f 1 x_59
noncomputable def f_X4_isAllAtRest  (f : Nat → Int32) : Option (Int32) :=
  f_X4_isAllAtRest_s4 FU f 1 0

noncomputable def f_X4_next_b52  (k : Nat → Int32) (f : Nat → Int32) (v2 : Int32) : Option (Int32 × (Nat → Int32) × (Nat → Int32)) :=
  if v2 = (-1) then
    some (v2, k, f)
  else
    chk v2 11 <|
    nm (upd k (Int32.toNatClampNeg v2) (-1)) fun k_13 =>
    some (v2, k_13, f)
noncomputable def f_X4_next_s4  : Nat → (Nat → Int32) → (Nat → Int32) → Int32 → Int32 → Option (Int32 × (Nat → Int32) × (Nat → Int32))
  | 0, _, _, _, _ => none
  | n+1, k, f, v2, v3 =>
    if (f (Int32.toNatClampNeg 0)) ≤ v3 then
      f_X4_next_b52 k f v2
    else
      chk v3 11 <|
      if (k (Int32.toNatClampNeg v3)) < 0 then
        nm (v3 + 1) fun x_4 =>
        f_X4_next_s4 n k f v2 x_4
      else
        if v2 = (-1) then
          nm (v3 + 1) fun x_6 =>
          f_X4_next_s4 n k f v3 x_6
        else
          chk v2 11 <|
          if (k (Int32.toNatClampNeg v3)) ≤ (k (Int32.toNatClampNeg v2)) then
            nm (v3 + 1) fun x_9 =>
            f_X4_next_s4 n k f v2 x_9
          else
            nm (v3 + 1) fun x_10 =>
            f_X4_next_s4 n k f v3 x_10
noncomputable def f_X4_next  (k : Nat → Int32) (f : Nat → Int32) : Option (Int32 × (Nat → Int32) × (Nat → Int32)) :=
  f_X4_next_s4 FU k f (-1) 0

noncomputable def f_X4_keyOf  (f : Nat → Int32) (y1 : Int32) (y2 : Int32) : Option (Int32) :=
  bd (f_X4_of f y1 1) fun x_2 =>
  some (((((10000 : Int32) * y2) + ((100 : Int32) * x_2)) + 99) - y1)

noncomputable def f_X4_come_s58  : Nat → (Nat → Int32) → (Nat → Int32) → Int32 → Option ((Nat → Int32) × (Nat → Int32))
  | 0, _, _, _ => none
  | n+1, k, f, v2 =>
    if v2 = (-1) then
      some (k, f)
    else
      bd (f_X4_full f 0) fun x_25 =>
      bd (f_X4_span f v2) fun x_27 =>
      if (x_25 &&& x_27) = 0 then
        bd (f_X4_puts f v2 5 1) fun fn_30 =>
        bd (f_X4_puts fn_30 v2 6 0) fun fn_32 =>
        bd3 (f_X4_next k fn_32) fun x_34 kn_35 fn_36 =>
        f_X4_come_s58 n kn_35 fn_36 x_34
      else
        bd3 (f_X4_next k f) fun x_38 kn_39 fn_40 =>
        f_X4_come_s58 n kn_39 fn_40 x_38
noncomputable def f_X4_come_b52  (k : Nat → Int32) (f : Nat → Int32) : Option ((Nat → Int32) × (Nat → Int32)) :=
  bd3 (f_X4_next k f) fun x_20 kn_21 fn_22 =>
  f_X4_come_s58 FU kn_21 fn_22 x_20
noncomputable def f_X4_come_s2  : Nat → (Nat → Int32) → (Nat → Int32) → Int32 → Option ((Nat → Int32) × (Nat → Int32))
  | 0, _, _, _ => none
  | n+1, k, f, v2 =>
    if (f (Int32.toNatClampNeg 0)) ≤ v2 then
      f_X4_come_b52 k f
    else
      bd (f_X4_of f v2 5) fun x_3 =>
      if x_3 = 0 then
        bd (f_X4_of f v2 4) fun x_6 =>
        if (f (Int32.toNatClampNeg 1)) < x_6 then
          chk v2 11 <|
          nm (upd k (Int32.toNatClampNeg v2) (-1)) fun k_9 =>
          nm (v2 + 1) fun x_10 =>
          f_X4_come_s2 n k_9 f x_10
        else
          bd (f_X4_keyOf f v2 0) fun x_12 =>
          chk v2 11 <|
          nm (upd k (Int32.toNatClampNeg v2) x_12) fun k_14 =>
          nm (v2 + 1) fun x_15 =>
          f_X4_come_s2 n k_14 f x_15
      else
        chk v2 11 <|
        nm (upd k (Int32.toNatClampNeg v2) (-1)) fun k_17 =>
        nm (v2 + 1) fun x_18 =>
        f_X4_come_s2 n k_17 f x_18
noncomputable def f_X4_come  (k : Nat → Int32) (f : Nat → Int32) : Option ((Nat → Int32) × (Nat → Int32)) :=
  f_X4_come_s2 FU k f 0

noncomputable def f_X4_moves_s17  : Nat → (Nat → Int32) → Int32 → Int32 → Int32 → Option ((Nat → Int32))
  | 0, _, _, _, _ => none
  | n+1, f, v1, v2, v3 =>
    if v2 ≤ 0 then
      some f
    else
      if v3 = 0 then
        some f
      else
        bd (f_X4_of f v1 6) fun x_9 =>
        if v3 = 1 then
          bd (f_X4_puts f v1 6 (x_9 + 1)) fun fn_12 =>
          bd (f_X4_of fn_12 v1 3) fun x_14 =>
          if v3 = 2 then
            bd (f_X4_puts fn_12 v1 3 (x_14 + (-1))) fun fn_17 =>
            nm (v2 + (-1)) fun x_18 =>
            bd (f_X4_stepOf fn_17 v1) fun x_20 =>
            f_X4_moves_s17 n fn_17 v1 x_18 x_20
          else
            if v3 = 3 then
              bd (f_X4_puts fn_12 v1 3 (x_14 + 1)) fun fn_23 =>
              nm (v2 + (-1)) fun x_24 =>
              bd (f_X4_stepOf fn_23 v1) fun x_26 =>
              f_X4_moves_s17 n fn_23 v1 x_24 x_26
            else
              bd (f_X4_puts fn_12 v1 3 (x_14 + 0)) fun fn_28 =>
              nm (v2 + (-1)) fun x_29 =>
              bd (f_X4_stepOf fn_28 v1) fun x_31 =>
              f_X4_moves_s17 n fn_28 v1 x_29 x_31
        else
          bd (f_X4_puts f v1 6 (x_9 + 0)) fun fn_33 =>
          bd (f_X4_of fn_33 v1 3) fun x_35 =>
          if v3 = 2 then
            bd (f_X4_puts fn_33 v1 3 (x_35 + (-1))) fun fn_38 =>
            nm (v2 + (-1)) fun x_39 =>
            bd (f_X4_stepOf fn_38 v1) fun x_41 =>
            f_X4_moves_s17 n fn_38 v1 x_39 x_41
          else
            if v3 = 3 then
              bd (f_X4_puts fn_33 v1 3 (x_35 + 1)) fun fn_44 =>
              nm (v2 + (-1)) fun x_45 =>
              bd (f_X4_stepOf fn_44 v1) fun x_47 =>
              f_X4_moves_s17 n fn_44 v1 x_45 x_47
            else
              bd (f_X4_puts fn_33 v1 3 (x_35 + 0)) fun fn_49 =>
              nm (v2 + (-1)) fun x_50 =>
              bd (f_X4_stepOf fn_49 v1) fun x_52 =>
              f_X4_moves_s17 n fn_49 v1 x_50 x_52
noncomputable def f_X4_moves  (f : Nat → Int32) (y1 : Int32) : Option ((Nat → Int32)) :=
  bd (f_X4_of f y1 1) fun x_2 =>
  nm ((1 : Int32) + (x_2 / 4)) fun x_3 =>
  bd (f_X4_stepOf f y1) fun x_5 =>
  f_X4_moves_s17 FU f y1 x_3 x_5

noncomputable def f_X4_moveAll_s51  : Nat → (Nat → Int32) → (Nat → Int32) → Int32 → Option ((Nat → Int32) × (Nat → Int32))
  | 0, _, _, _ => none
  | n+1, k, f, v2 =>
    if v2 = (-1) then
      some (k, f)
    else
      bd (f_X4_moves f v2) fun fn_21 =>
      bd3 (f_X4_next k fn_21) fun x_23 kn_24 fn_25 =>
      f_X4_moveAll_s51 n kn_24 fn_25 x_23
noncomputable def f_X4_moveAll_b45  (k : Nat → Int32) (f : Nat → Int32) : Option ((Nat → Int32) × (Nat → Int32)) :=
  bd3 (f_X4_next k f) fun x_16 kn_17 fn_18 =>
  f_X4_moveAll_s51 FU kn_17 fn_18 x_16
noncomputable def f_X4_moveAll_s2  : Nat → (Nat → Int32) → (Nat → Int32) → Int32 → Option ((Nat → Int32) × (Nat → Int32))
  | 0, _, _, _ => none
  | n+1, k, f, v2 =>
    if (f (Int32.toNatClampNeg 0)) ≤ v2 then
      f_X4_moveAll_b45 k f
    else
      bd (f_X4_isOn f v2) fun x_3 =>
      if x_3 = 0 then
        chk v2 11 <|
        nm (upd k (Int32.toNatClampNeg v2) (-1)) fun k_6 =>
        nm (v2 + 1) fun x_7 =>
        f_X4_moveAll_s2 n k_6 f x_7
      else
        bd (f_X4_of f v2 6) fun x_9 =>
        bd (f_X4_keyOf f v2 x_9) fun x_11 =>
        chk v2 11 <|
        nm (upd k (Int32.toNatClampNeg v2) x_11) fun k_13 =>
        nm (v2 + 1) fun x_14 =>
        f_X4_moveAll_s2 n k_13 f x_14
noncomputable def f_X4_moveAll  (k : Nat → Int32) (f : Nat → Int32) : Option ((Nat → Int32) × (Nat → Int32)) :=
  f_X4_moveAll_s2 FU k f 0

noncomputable def f_X4_breaks_s52  : Nat → (Nat → Int32) → Int32 → Int32 → Int32 → Option (Int32 × (Nat → Int32))
  | 0, _, _, _, _ => none
  | n+1, f, v1, v2, v3 =>
    chk 0 81 <|
    if (f (Int32.toNatClampNeg 0)) ≤ v3 then
      some (v2, f)
    else
      if ((v1 >>> (v3 &&& 31)) &&& 1) = 1 then
        bd (f_X4_puts f v3 5 3) fun fn_21 =>
        nm (v2 + 1) fun x_22 =>
        nm (v3 + 1) fun x_23 =>
        f_X4_breaks_s52 n fn_21 v1 x_22 x_23
      else
        nm (v3 + 1) fun x_24 =>
        f_X4_breaks_s52 n f v1 v2 x_24
noncomputable def f_X4_breaks_s6  : Nat → (Nat → Int32) → Int32 → Int32 → Int32 → Option (Int32 × (Nat → Int32))
  | 0, _, _, _, _ => none
  | n+1, f, v1, v2, v3 =>
    chk 0 81 <|
    if (f (Int32.toNatClampNeg 0)) ≤ v3 then
      f_X4_breaks_s52 FU f v1 v2 0
    else
      bd (f_X4_isOn f v3) fun x_4 =>
      if x_4 = 0 then
        nm (v1 ||| 0) fun x_6 =>
        nm (v3 + 1) fun x_7 =>
        f_X4_breaks_s6 n f x_6 v2 x_7
      else
        bd (f_X4_load f v3) fun x_9 =>
        bd (f_X4_strength f v3) fun x_11 =>
        if x_9 ≤ x_11 then
          nm (v1 ||| 0) fun x_13 =>
          nm (v3 + 1) fun x_14 =>
          f_X4_breaks_s6 n f x_13 v2 x_14
        else
          nm (v1 ||| ((1 : Int32) <<< (v3 &&& 31))) fun x_15 =>
          nm (v3 + 1) fun x_16 =>
          f_X4_breaks_s6 n f x_15 v2 x_16
noncomputable def f_X4_breaks  (f : Nat → Int32) : Option (Int32 × (Nat → Int32)) :=
  f_X4_breaks_s6 FU f 0 0 0

noncomputable def f_X4_beat  (k : Nat → Int32) (f : Nat → Int32) : Option (Int32 × (Nat → Int32) × (Nat → Int32)) :=
  bd2 (f_X4_come k f) fun kn_2 fn_3 =>
  bd2 (f_X4_moveAll kn_2 fn_3) fun kn_5 fn_6 =>
  bd2 (f_X4_breaks fn_6) fun x_8 fn_9 =>
  nm (upd fn_9 (Int32.toNatClampNeg 3) ((fn_9 (Int32.toNatClampNeg 3)) + x_8)) fun f_10 =>
  nm (upd f_10 (Int32.toNatClampNeg 1) ((f_10 (Int32.toNatClampNeg 1)) + 1)) fun f_11 =>
  some (x_8, kn_5, f_11)

noncomputable def f_X4_rests_b37  (k : Nat → Int32) (f : Nat → Int32) (v2 : Int32) : Option (Int32 × (Nat → Int32) × (Nat → Int32)) :=
  bd (f_X4_isAllAtRest f) fun x_13 =>
  if x_13 = 0 then
    some ((-1), k, f)
  else
    some (v2, k, f)
noncomputable def f_X4_rests_s2  : Nat → (Nat → Int32) → (Nat → Int32) → Int32 → Option (Int32 × (Nat → Int32) × (Nat → Int32))
  | 0, _, _, _ => none
  | n+1, k, f, v2 =>
    if 200 ≤ v2 then
      f_X4_rests_b37 k f v2
    else
      bd (f_X4_isAllAtRest f) fun x_3 =>
      if x_3 = 0 then
        bd3 (f_X4_beat k f) fun x_6 kn_7 fn_8 =>
        if 0 ≤ x_6 then
          nm (v2 + 1) fun x_10 =>
          f_X4_rests_s2 n kn_7 fn_8 x_10
        else
          nm (v2 + 0) fun x_11 =>
          f_X4_rests_s2 n kn_7 fn_8 x_11
      else
        f_X4_rests_b37 k f v2
noncomputable def f_X4_rests  (k : Nat → Int32) (f : Nat → Int32) : Option (Int32 × (Nat → Int32) × (Nat → Int32)) :=
  f_X4_rests_s2 FU k f 0

noncomputable def f_X4_isLine  (y0 : Int32) (y1 : Int32) (y2 : Int32) : Option (Int32) :=
  bd (f_X4_in y0 1 12) fun x_2 =>
  if x_2 = 0 then
    some 0
  else
    bd (f_X4_in y1 1 9) fun x_5 =>
    if x_5 = 0 then
      some 0
    else
      bd (f_X4_in y2 0 ((24 : Int32) - y0)) fun x_8 =>
      if x_8 = 0 then
        some 0
      else
        some 1

noncomputable def f_X4_isLet  (y0 : Int32) (y1 : Int32) : Option (Int32) :=
  bd (f_X4_in y0 0 3) fun x_2 =>
  if x_2 = 0 then
    some 0
  else
    bd (f_X4_in y1 0 99) fun x_5 =>
    if x_5 = 0 then
      some 0
    else
      some 1

noncomputable def f_X4_comes  (f : Nat → Int32) (y1 : Int32) (y2 : Int32) (y3 : Int32) (y4 : Int32) (y5 : Int32) : Option ((Nat → Int32)) :=
  chk 0 81 <|
  nm ((4 : Int32) + ((7 : Int32) * (f (Int32.toNatClampNeg 0)))) fun x_2 =>
  chk (x_2 + 0) 81 <|
  nm (upd f (Int32.toNatClampNeg (x_2 + 0)) y1) fun f_4 =>
  chk (x_2 + 1) 81 <|
  nm (upd f_4 (Int32.toNatClampNeg (x_2 + 1)) y2) fun f_6 =>
  chk (x_2 + 2) 81 <|
  nm (upd f_6 (Int32.toNatClampNeg (x_2 + 2)) y4) fun f_8 =>
  chk (x_2 + 3) 81 <|
  nm (upd f_8 (Int32.toNatClampNeg (x_2 + 3)) y3) fun f_10 =>
  chk (x_2 + 4) 81 <|
  nm (upd f_10 (Int32.toNatClampNeg (x_2 + 4)) y5) fun f_12 =>
  chk (x_2 + 5) 81 <|
  nm (upd f_12 (Int32.toNatClampNeg (x_2 + 5)) 0) fun f_14 =>
  chk (x_2 + 6) 81 <|
  nm (upd f_14 (Int32.toNatClampNeg (x_2 + 6)) 0) fun f_16 =>
  nm (upd f_16 (Int32.toNatClampNeg 0) ((f_16 (Int32.toNatClampNeg 0)) + 1)) fun f_17 =>
  some f_17

noncomputable def f_X4_line  (z : MS) (y1 : Int32) (y2 : Int32) (y3 : Int32) (y4 : Int32) (y5 : Int32) : Option (Int32 × MS) :=
  bd (f_X4_isLine y1 y2 y3) fun x_2 =>
  if x_2 = 0 then
    bd2 (f_X4_refuses z 1) fun x_6 z_7 =>
    if x_6 = 0 then
      bd (f_X4_saves z_7) fun z_10 =>
      bd (f_X4_comes (M_now z_10) y1 y2 y3 y4 y5) fun zn_12 =>
      nm (M_u_now z_10 zn_12) fun z_13 =>
      some (((M_now z_13) (Int32.toNatClampNeg 0)) - 1, z_13)
    else
      some (0, z_7)
  else
    bd (f_X4_isLet y4 y5) fun x_15 =>
    if x_15 = 0 then
      bd2 (f_X4_refuses z 1) fun x_19 z_20 =>
      if x_19 = 0 then
        bd (f_X4_saves z_20) fun z_23 =>
        bd (f_X4_comes (M_now z_23) y1 y2 y3 y4 y5) fun zn_25 =>
        nm (M_u_now z_23 zn_25) fun z_26 =>
        some (((M_now z_26) (Int32.toNatClampNeg 0)) - 1, z_26)
      else
        some (0, z_20)
    else
      if ((M_now z) (Int32.toNatClampNeg 0)) = 10 then
        bd2 (f_X4_refuses z 2) fun x_30 z_31 =>
        if x_30 = 0 then
          bd (f_X4_saves z_31) fun z_34 =>
          bd (f_X4_comes (M_now z_34) y1 y2 y3 y4 y5) fun zn_36 =>
          nm (M_u_now z_34 zn_36) fun z_37 =>
          some (((M_now z_37) (Int32.toNatClampNeg 0)) - 1, z_37)
        else
          some (0, z_31)
      else
        bd2 (f_X4_refuses z 0) fun x_39 z_40 =>
        if x_39 = 0 then
          bd (f_X4_saves z_40) fun z_43 =>
          bd (f_X4_comes (M_now z_43) y1 y2 y3 y4 y5) fun zn_45 =>
          nm (M_u_now z_43 zn_45) fun z_46 =>
          some (((M_now z_46) (Int32.toNatClampNeg 0)) - 1, z_46)
        else
          some (0, z_40)

noncomputable def f_X4_run_s50  : Nat → MS → Int32 → Int32 → Int32 → Option (Int32 × MS)
  | 0, _, _, _, _ => none
  | n+1, z, v1, v2, v3 =>
    if v1 ≤ v3 then
      some (v2, z)
    else
      bd3 (f_X4_beat (M_keys z) (M_now z)) fun x_25 zn_26 zn_27 =>
      nm (M_u_keys z zn_26) fun z_28 =>
      nm (M_u_now z_28 zn_27) fun z_29 =>
      nm (v2 + x_25) fun x_30 =>
      nm (v3 + 1) fun x_31 =>
      f_X4_run_s50 n z_29 v1 x_30 x_31
noncomputable def f_X4_run  (z : MS) (y1 : Int32) : Option (Int32 × MS) :=
  bd (f_X4_in y1 1 50) fun x_2 =>
  if x_2 = 0 then
    bd2 (f_X4_refuses z 1) fun x_5 z_6 =>
    if x_5 = 0 then
      bd (f_X4_saves z_6) fun z_9 =>
      f_X4_run_s50 FU z_9 y1 0 0
    else
      some (0, z_6)
  else
    if (((M_now z) (Int32.toNatClampNeg 1)) + y1) ≤ 999 then
      bd2 (f_X4_refuses z 0) fun x_12 z_13 =>
      if x_12 = 0 then
        bd (f_X4_saves z_13) fun z_16 =>
        f_X4_run_s50 FU z_16 y1 0 0
      else
        some (0, z_13)
    else
      bd2 (f_X4_refuses z 2) fun x_18 z_19 =>
      if x_18 = 0 then
        bd (f_X4_saves z_19) fun z_22 =>
        f_X4_run_s50 FU z_22 y1 0 0
      else
        some (0, z_19)

noncomputable def f_X4_takesAway_s4  : Nat → (Nat → Int32) → Int32 → Int32 → Int32 → Option (Int32 × (Nat → Int32))
  | 0, _, _, _, _ => none
  | n+1, f, v1, v2, v3 =>
    chk 0 81 <|
    if (f (Int32.toNatClampNeg 0)) ≤ v3 then
      some (v2, f)
    else
      bd (f_X4_of f v3 2) fun x_4 =>
      if x_4 = v1 then
        bd (f_X4_of f v3 5) fun x_7 =>
        if x_7 = 3 then
          nm (v3 + 1) fun x_9 =>
          f_X4_takesAway_s4 n f v1 v2 x_9
        else
          bd (f_X4_puts f v3 5 3) fun fn_11 =>
          nm (v2 + 1) fun x_12 =>
          nm (v3 + 1) fun x_13 =>
          f_X4_takesAway_s4 n fn_11 v1 x_12 x_13
      else
        nm (v3 + 1) fun x_14 =>
        f_X4_takesAway_s4 n f v1 v2 x_14
noncomputable def f_X4_takesAway  (f : Nat → Int32) (y1 : Int32) : Option (Int32 × (Nat → Int32)) :=
  f_X4_takesAway_s4 FU f y1 0 0

noncomputable def f_X4_isVerse  (y0 : Int32) : Option (Int32) :=
  bd (f_X4_in y0 0 3) fun x_2 =>
  chp (narrow .boolean (.int (x_2)) = .int (x_2)) <|
  some x_2

noncomputable def f_X4_reset  (z : MS) (y1 : Int32) : Option (Int32 × MS) :=
  bd (f_X4_isVerse y1) fun x_2 =>
  if x_2 = 0 then
    bd2 (f_X4_refuses z 1) fun x_5 z_6 =>
    if x_5 = 0 then
      bd (f_X4_saves z_6) fun z_9 =>
      bd2 (f_X4_takesAway (M_now z_9) y1) fun x_11 zn_12 =>
      nm (M_u_now z_9 zn_12) fun z_13 =>
      some (x_11, z_13)
    else
      some (0, z_6)
  else
    bd2 (f_X4_refuses z 0) fun x_15 z_16 =>
    if x_15 = 0 then
      bd (f_X4_saves z_16) fun z_19 =>
      bd2 (f_X4_takesAway (M_now z_19) y1) fun x_21 zn_22 =>
      nm (M_u_now z_19 zn_22) fun z_23 =>
      some (x_21, z_23)
    else
      some (0, z_16)

noncomputable def f_X4_isNumber  (z : MS) (y1 : Int32) : Option (Int32) :=
  bd (f_X4_in y1 0 (((M_now z) (Int32.toNatClampNeg 0)) - 1)) fun x_2 =>
  chp (narrow .boolean (.int (x_2)) = .int (x_2)) <|
  some x_2

noncomputable def f_X4_canPush  (z : MS) (y1 : Int32) (y2 : Int32) : Option (Int32) :=
  if y2 = 0 then
    bd (f_X4_of (M_now z) y1 3) fun x_3 =>
    nm (x_3 - 1) fun x_4 =>
    bd (f_X4_isOn (M_now z) y1) fun x_6 =>
    if x_6 = 0 then
      some 0
    else
      bd (f_X4_of (M_now z) y1 6) fun x_9 =>
      bd (f_X4_isFree (M_now z) x_9 x_4) fun x_11 =>
      if x_11 = 0 then
        some 0
      else
        some 1
  else
    bd (f_X4_of (M_now z) y1 3) fun x_14 =>
    bd (f_X4_of (M_now z) y1 0) fun x_16 =>
    nm (x_14 + x_16) fun x_17 =>
    bd (f_X4_isOn (M_now z) y1) fun x_19 =>
    if x_19 = 0 then
      some 0
    else
      bd (f_X4_of (M_now z) y1 6) fun x_22 =>
      bd (f_X4_isFree (M_now z) x_22 x_17) fun x_24 =>
      if x_24 = 0 then
        some 0
      else
        some 1

noncomputable def f_X4_push  (z : MS) (y1 : Int32) (y2 : Int32) : Option (Int32 × MS) :=
  bd (f_X4_isNumber z y1) fun x_2 =>
  if x_2 = 0 then
    bd2 (f_X4_refuses z 1) fun x_5 z_6 =>
    if x_5 = 0 then
      bd (f_X4_saves z_6) fun z_9 =>
      bd (f_X4_of (M_now z_9) y1 3) fun x_11 =>
      if y2 = 0 then
        bd (f_X4_puts (M_now z_9) y1 3 (x_11 + (-1))) fun zn_14 =>
        nm (M_u_now z_9 zn_14) fun z_15 =>
        bd (f_X4_of (M_now z_15) y1 3) fun x_17 =>
        some (x_17, z_15)
      else
        bd (f_X4_puts (M_now z_9) y1 3 (x_11 + 1)) fun zn_19 =>
        nm (M_u_now z_9 zn_19) fun z_20 =>
        bd (f_X4_of (M_now z_20) y1 3) fun x_22 =>
        some (x_22, z_20)
    else
      some (0, z_6)
  else
    bd (f_X4_canPush z y1 y2) fun x_24 =>
    if x_24 = 0 then
      bd2 (f_X4_refuses z 2) fun x_27 z_28 =>
      if x_27 = 0 then
        bd (f_X4_saves z_28) fun z_31 =>
        bd (f_X4_of (M_now z_31) y1 3) fun x_33 =>
        if y2 = 0 then
          bd (f_X4_puts (M_now z_31) y1 3 (x_33 + (-1))) fun zn_36 =>
          nm (M_u_now z_31 zn_36) fun z_37 =>
          bd (f_X4_of (M_now z_37) y1 3) fun x_39 =>
          some (x_39, z_37)
        else
          bd (f_X4_puts (M_now z_31) y1 3 (x_33 + 1)) fun zn_41 =>
          nm (M_u_now z_31 zn_41) fun z_42 =>
          bd (f_X4_of (M_now z_42) y1 3) fun x_44 =>
          some (x_44, z_42)
      else
        some (0, z_28)
    else
      bd2 (f_X4_refuses z 0) fun x_46 z_47 =>
      if x_46 = 0 then
        bd (f_X4_saves z_47) fun z_50 =>
        bd (f_X4_of (M_now z_50) y1 3) fun x_52 =>
        if y2 = 0 then
          bd (f_X4_puts (M_now z_50) y1 3 (x_52 + (-1))) fun zn_55 =>
          nm (M_u_now z_50 zn_55) fun z_56 =>
          bd (f_X4_of (M_now z_56) y1 3) fun x_58 =>
          some (x_58, z_56)
        else
          bd (f_X4_puts (M_now z_50) y1 3 (x_52 + 1)) fun zn_60 =>
          nm (M_u_now z_50 zn_60) fun z_61 =>
          bd (f_X4_of (M_now z_61) y1 3) fun x_63 =>
          some (x_63, z_61)
      else
        some (0, z_47)

noncomputable def f_X4_set  (z : MS) (y1 : Int32) : Option (Int32 × MS) :=
  bd (f_X4_in y1 1 9) fun x_2 =>
  if x_2 = 0 then
    bd2 (f_X4_refuses z 1) fun x_5 z_6 =>
    if x_5 = 0 then
      bd (f_X4_saves z_6) fun z_9 =>
      nm ((M_now z_9) (Int32.toNatClampNeg 2)) fun x_10 =>
      nm (M_u_now z_9 (upd (M_now z_9) (Int32.toNatClampNeg 2) y1)) fun z_11 =>
      some (x_10, z_11)
    else
      some (0, z_6)
  else
    bd2 (f_X4_refuses z 0) fun x_13 z_14 =>
    if x_13 = 0 then
      bd (f_X4_saves z_14) fun z_17 =>
      nm ((M_now z_17) (Int32.toNatClampNeg 2)) fun x_18 =>
      nm (M_u_now z_17 (upd (M_now z_17) (Int32.toNatClampNeg 2) y1)) fun z_19 =>
      some (x_18, z_19)
    else
      some (0, z_14)

noncomputable def f_X4_append  (z : MS) (y1 : Int32) : Option (Int32 × MS) :=
  bd (f_X4_in y1 33 126) fun x_2 =>
  if x_2 = 0 then
    bd2 (f_X4_refuses z 1) fun x_5 z_6 =>
    if x_5 = 0 then
      chk (M_length z_6) 60 <|
      nm (M_u_buffer z_6 (upd (M_buffer z_6) (Int32.toNatClampNeg (M_length z_6)) y1)) fun z_9 =>
      nm (M_u_length z_9 ((M_length z_9) + 1)) fun z_10 =>
      some ((M_length z_10), z_10)
    else
      some (0, z_6)
  else
    if (M_length z) = 60 then
      bd2 (f_X4_refuses z 2) fun x_13 z_14 =>
      if x_13 = 0 then
        chk (M_length z_14) 60 <|
        nm (M_u_buffer z_14 (upd (M_buffer z_14) (Int32.toNatClampNeg (M_length z_14)) y1)) fun z_17 =>
        nm (M_u_length z_17 ((M_length z_17) + 1)) fun z_18 =>
        some ((M_length z_18), z_18)
      else
        some (0, z_14)
    else
      bd2 (f_X4_refuses z 0) fun x_20 z_21 =>
      if x_20 = 0 then
        chk (M_length z_21) 60 <|
        nm (M_u_buffer z_21 (upd (M_buffer z_21) (Int32.toNatClampNeg (M_length z_21)) y1)) fun z_24 =>
        nm (M_u_length z_24 ((M_length z_24) + 1)) fun z_25 =>
        some ((M_length z_25), z_25)
      else
        some (0, z_21)

noncomputable def f_X4_clearBuffer  (z : MS) : Option (Int32 × MS) :=
  nm (M_u_thrown z 0) fun z_1 =>
  nm ((M_length z_1)) fun x_2 =>
  nm (M_u_length z_1 0) fun z_3 =>
  some (x_2, z_3)

noncomputable def f_X4_sees  (z : MS) (y1 : Int32) (y2 : Int32) : Option (Int32) :=
  if (M_length z) ≤ (M_spot z) then
    some 0
  else
    chk (M_spot z) 60 <|
    bd (f_X4_in ((M_buffer z) (Int32.toNatClampNeg (M_spot z))) y1 y2) fun x_4 =>
    if x_4 = 0 then
      some 0
    else
      some 1

noncomputable def f_X4_takes  (z : MS) (y1 : Int32) : Option (Int32 × MS) :=
  bd (f_X4_sees z y1 y1) fun x_2 =>
  if x_2 = 0 then
    nm (M_u_spot z ((M_spot z) + 0)) fun z_4 =>
    chp (narrow .boolean (.int (x_2)) = .int (x_2)) <|
    some (x_2, z_4)
  else
    nm (M_u_spot z ((M_spot z) + 1)) fun z_6 =>
    chp (narrow .boolean (.int (x_2)) = .int (x_2)) <|
    some (x_2, z_6)

noncomputable def f_X4_isTold_b110  (z : MS) (v1 : Int32) (v4 : Int32) : Option (Int32 × MS) :=
  chk (((4 : Int32) * (M_toldMany z)) + v1) 48 <|
  nm (M_u_told z (upd (M_told z) (Int32.toNatClampNeg (((4 : Int32) * (M_toldMany z)) + v1)) v4)) fun z_16 =>
  some (1, z_16)
noncomputable def f_X4_isTold_s39  : Nat → MS → Int32 → Int32 → Int32 → Option (Int32 × MS)
  | 0, _, _, _, _ => none
  | n+1, z, v1, v3, v4 =>
    if v4 ≤ 0 then
      f_X4_isTold_b110 z v1 v4
    else
      bd (f_X4_sees z 48 57) fun x_9 =>
      if x_9 = 0 then
        f_X4_isTold_b110 z v1 v4
      else
        chk (M_spot z) 60 <|
        if v3 < ((((10 : Int32) * v4) + ((M_buffer z) (Int32.toNatClampNeg (M_spot z)))) - 48) then
          f_X4_isTold_b110 z v1 v4
        else
          nm ((((10 : Int32) * v4) + ((M_buffer z) (Int32.toNatClampNeg (M_spot z)))) - 48) fun x_13 =>
          nm (M_u_spot z ((M_spot z) + 1)) fun z_14 =>
          f_X4_isTold_s39 n z_14 v1 v3 x_13
noncomputable def f_X4_isTold  (z : MS) (y1 : Int32) (y2 : Int32) (y3 : Int32) : Option (Int32 × MS) :=
  bd (f_X4_sees z ((48 : Int32) + y2) 57) fun x_2 =>
  if x_2 = 0 then
    some (0, z)
  else
    chk (M_spot z) 60 <|
    nm (((M_buffer z) (Int32.toNatClampNeg (M_spot z))) - 48) fun x_5 =>
    nm (M_u_spot z ((M_spot z) + 1)) fun z_6 =>
    f_X4_isTold_s39 FU z_6 y1 y3 x_5

noncomputable def f_X4_isPart  (z : MS) : Option (Int32 × MS) :=
  bd2 (f_X4_isTold z 0 1 12) fun x_2 z_3 =>
  if x_2 = 0 then
    chk (((4 : Int32) * (M_toldMany z_3)) + 3) 48 <|
    nm (M_u_told z_3 (upd (M_told z_3) (Int32.toNatClampNeg (((4 : Int32) * (M_toldMany z_3)) + 3)) 0)) fun z_6 =>
    some (0, z_6)
  else
    bd2 (f_X4_takes z_3 119) fun x_9 z_10 =>
    if x_9 = 0 then
      chk (((4 : Int32) * (M_toldMany z_10)) + 3) 48 <|
      nm (M_u_told z_10 (upd (M_told z_10) (Int32.toNatClampNeg (((4 : Int32) * (M_toldMany z_10)) + 3)) 0)) fun z_13 =>
      some (0, z_13)
    else
      bd2 (f_X4_isTold z_10 1 1 9) fun x_16 z_17 =>
      if x_16 = 0 then
        chk (((4 : Int32) * (M_toldMany z_17)) + 3) 48 <|
        nm (M_u_told z_17 (upd (M_told z_17) (Int32.toNatClampNeg (((4 : Int32) * (M_toldMany z_17)) + 3)) 0)) fun z_20 =>
        some (0, z_20)
      else
        bd2 (f_X4_takes z_17 64) fun x_23 z_24 =>
        if x_23 = 0 then
          chk (((4 : Int32) * (M_toldMany z_24)) + 3) 48 <|
          nm (M_u_told z_24 (upd (M_told z_24) (Int32.toNatClampNeg (((4 : Int32) * (M_toldMany z_24)) + 3)) 0)) fun z_27 =>
          some (0, z_27)
        else
          bd2 (f_X4_isTold z_24 2 0 23) fun x_30 z_31 =>
          if x_30 = 0 then
            chk (((4 : Int32) * (M_toldMany z_31)) + 3) 48 <|
            nm (M_u_told z_31 (upd (M_told z_31) (Int32.toNatClampNeg (((4 : Int32) * (M_toldMany z_31)) + 3)) 0)) fun z_34 =>
            some (0, z_34)
          else
            chk (((4 : Int32) * (M_toldMany z_31)) + 3) 48 <|
            nm (M_u_told z_31 (upd (M_told z_31) (Int32.toNatClampNeg (((4 : Int32) * (M_toldMany z_31)) + 3)) 0)) fun z_37 =>
            bd2 (f_X4_takes z_37 43) fun x_40 z_41 =>
            if x_40 = 0 then
              some (1, z_41)
            else
              bd2 (f_X4_isTold z_41 3 0 50) fun x_44 z_45 =>
              if x_44 = 0 then
                some (0, z_45)
              else
                some (1, z_45)

noncomputable def f_X4_isPoem_b45  (z : MS) : Option (Int32 × MS) :=
  if (M_spot z) = (M_length z) then
    some (1, z)
  else
    some (0, z)
noncomputable def f_X4_isPoem_s12  : Nat → MS → Int32 → Option (Int32 × MS)
  | 0, _, _ => none
  | n+1, z, v1 =>
    if v1 = 0 then
      f_X4_isPoem_b45 z
    else
      bd2 (f_X4_isPart z) fun x_5 z_6 =>
      if x_5 = 0 then
        some (0, z_6)
      else
        nm (M_u_toldMany z_6 ((M_toldMany z_6) + 1)) fun z_8 =>
        bd2 (f_X4_takes z_8 59) fun x_10 z_11 =>
        f_X4_isPoem_s12 n z_11 x_10
noncomputable def f_X4_isPoem  (z : MS) : Option (Int32 × MS) :=
  nm (M_u_spot z 0) fun z_1 =>
  nm (M_u_toldMany z_1 0) fun z_2 =>
  f_X4_isPoem_s12 FU z_2 1

noncomputable def f_X4_firstError  (z : MS) : Option (Int32 × MS) :=
  nm (M_u_thrown z 0) fun z_1 =>
  bd2 (f_X4_isPoem z_1) fun x_3 z_4 =>
  if x_3 = 0 then
    some ((M_spot z_4), z_4)
  else
    some ((M_length z_4), z_4)

noncomputable def f_X4_isAdded  (z : MS) (y1 : Int32) : Option (Int32 × MS) :=
  chk (((4 : Int32) * y1) + 3) 48 <|
  nm (((M_now z) (Int32.toNatClampNeg 1)) + ((M_told z) (Int32.toNatClampNeg (((4 : Int32) * y1) + 3)))) fun x_2 =>
  if 10 ≤ ((M_now z) (Int32.toNatClampNeg 0)) then
    some (0, z)
  else
    chk ((4 : Int32) * y1) 48 <|
    chk (((4 : Int32) * y1) + 1) 48 <|
    chk (((4 : Int32) * y1) + 2) 48 <|
    bd (f_X4_isLine ((M_told z) (Int32.toNatClampNeg ((4 : Int32) * y1))) ((M_told z) (Int32.toNatClampNeg (((4 : Int32) * y1) + 1))) ((M_told z) (Int32.toNatClampNeg (((4 : Int32) * y1) + 2)))) fun x_9 =>
    if x_9 = 0 then
      some (0, z)
    else
      bd (f_X4_isLet 0 x_2) fun x_13 =>
      if x_13 = 0 then
        some (0, z)
      else
        bd (f_X4_comes (M_now z) ((M_told z) (Int32.toNatClampNeg ((4 : Int32) * y1))) ((M_told z) (Int32.toNatClampNeg (((4 : Int32) * y1) + 1))) ((M_told z) (Int32.toNatClampNeg (((4 : Int32) * y1) + 2))) 0 x_2) fun zn_18 =>
        nm (M_u_now z zn_18) fun z_19 =>
        some (1, z_19)

noncomputable def f_X4_read_s32  : Nat → MS → Int32 → Option (Int32 × MS)
  | 0, _, _ => none
  | n+1, z, v1 =>
    if (M_toldMany z) ≤ v1 then
      some (v1, z)
    else
      bd2 (f_X4_isAdded z v1) fun x_21 z_22 =>
      if x_21 = 0 then
        some (v1, z_22)
      else
        nm (v1 + 1) fun x_24 =>
        f_X4_read_s32 n z_22 x_24
noncomputable def f_X4_read  (z : MS) : Option (Int32 × MS) :=
  bd2 (f_X4_isPoem z) fun x_2 z_3 =>
  if x_2 = 0 then
    bd2 (f_X4_refuses z_3 1) fun x_6 z_7 =>
    if x_6 = 0 then
      bd (f_X4_saves z_7) fun z_10 =>
      nm (M_u_length z_10 0) fun z_11 =>
      f_X4_read_s32 FU z_11 0
    else
      some (0, z_7)
  else
    bd2 (f_X4_refuses z_3 0) fun x_13 z_14 =>
    if x_13 = 0 then
      bd (f_X4_saves z_14) fun z_17 =>
      nm (M_u_length z_17 0) fun z_18 =>
      f_X4_read_s32 FU z_18 0
    else
      some (0, z_14)

noncomputable def f_X4_howOf  (z : MS) (y1 : Int32) : Option (Int32) :=
  bd (f_X4_of (M_now z) y1 5) fun x_2 =>
  if x_2 = 1 then
    bd (f_X4_isAtRest (M_now z) y1) fun x_5 =>
    if x_5 = 0 then
      some x_2
    else
      some 2
  else
    some x_2

noncomputable def f_X4_beside_s5  : Nat → MS → Int32 → Int32 → Int32 → Int32 → Option (Int32)
  | 0, _, _, _, _, _ => none
  | n+1, z, v1, v2, v3, v4 =>
    if ((M_now z) (Int32.toNatClampNeg 0)) ≤ v4 then
      some v3
    else
      if v2 = 0 then
        bd (f_X4_isAbove (M_now z) v4 v1) fun x_4 =>
        if x_4 = 0 then
          nm (v3 ||| 0) fun x_6 =>
          nm (v4 + 1) fun x_7 =>
          f_X4_beside_s5 n z v1 v2 x_6 x_7
        else
          nm (v3 ||| ((1 : Int32) <<< (v4 &&& 31))) fun x_8 =>
          nm (v4 + 1) fun x_9 =>
          f_X4_beside_s5 n z v1 v2 x_8 x_9
      else
        bd (f_X4_isAbove (M_now z) v1 v4) fun x_11 =>
        if x_11 = 0 then
          nm (v3 ||| 0) fun x_13 =>
          nm (v4 + 1) fun x_14 =>
          f_X4_beside_s5 n z v1 v2 x_13 x_14
        else
          nm (v3 ||| ((1 : Int32) <<< (v4 &&& 31))) fun x_15 =>
          nm (v4 + 1) fun x_16 =>
          f_X4_beside_s5 n z v1 v2 x_15 x_16
noncomputable def f_X4_beside  (z : MS) (y1 : Int32) (y2 : Int32) : Option (Int32) :=
  f_X4_beside_s5 FU z y1 y2 0 0

noncomputable def f_X4_place  (f : Nat → Int32) (y1 : Int32) : Option (Int32) :=
  bd (f_X4_of f y1 6) fun x_2 =>
  bd (f_X4_of f y1 3) fun x_4 =>
  some (((24 : Int32) * x_2) + x_4)

noncomputable def f_X4_readAt_b58  (z : MS) (v1 : Int32) (v2 : Int32) : Option (Int32) :=
  bd (f_X4_isOn (M_now z) v1) fun x_17 =>
  if x_17 = 0 then
    some (-1)
  else
    some v2
noncomputable def f_X4_readAt_s4  : Nat → MS → Int32 → Int32 → Int32 → Option (Int32)
  | 0, _, _, _, _ => none
  | n+1, z, v1, v2, v3 =>
    if ((M_now z) (Int32.toNatClampNeg 0)) ≤ v3 then
      f_X4_readAt_b58 z v1 v2
    else
      bd (f_X4_isOn (M_now z) v3) fun x_3 =>
      if x_3 = 0 then
        nm (v2 + 0) fun x_5 =>
        nm (v3 + 1) fun x_6 =>
        f_X4_readAt_s4 n z v1 x_5 x_6
      else
        bd (f_X4_place (M_now z) v3) fun x_8 =>
        bd (f_X4_place (M_now z) v1) fun x_10 =>
        if x_10 ≤ x_8 then
          nm (v2 + 0) fun x_12 =>
          nm (v3 + 1) fun x_13 =>
          f_X4_readAt_s4 n z v1 x_12 x_13
        else
          nm (v2 + 1) fun x_14 =>
          nm (v3 + 1) fun x_15 =>
          f_X4_readAt_s4 n z v1 x_14 x_15
noncomputable def f_X4_readAt  (z : MS) (y1 : Int32) : Option (Int32) :=
  f_X4_readAt_s4 FU z y1 0 0

noncomputable def f_X4_ofLine  (z : MS) (y1 : Int32) (y2 : Int32) : Option (Int32) :=
  if y2 = Int32.ofInt 5 then
    bd (f_X4_howOf z y1) fun x_3 =>
    some x_3
  else
    if y2 = Int32.ofInt 6 then
      bd (f_X4_isOn (M_now z) y1) fun x_6 =>
      if x_6 = 0 then
        some (-1)
      else
        bd (f_X4_of (M_now z) y1 6) fun x_9 =>
        some x_9
    else
      if y2 = Int32.ofInt 7 then
        bd (f_X4_load (M_now z) y1) fun x_12 =>
        some x_12
      else
        if y2 = Int32.ofInt 8 then
          bd (f_X4_strength (M_now z) y1) fun x_15 =>
          some x_15
        else
          if y2 = Int32.ofInt 9 then
            bd (f_X4_beside z y1 0) fun x_18 =>
            some x_18
          else
            if y2 = Int32.ofInt 10 then
              bd (f_X4_beside z y1 1) fun x_21 =>
              some x_21
            else
              if y2 = Int32.ofInt 11 then
                bd (f_X4_readAt z y1) fun x_24 =>
                some x_24
              else
                bd (f_X4_of (M_now z) y1 y2) fun x_26 =>
                some x_26

noncomputable def f_X4_lineOf  (z : MS) (y1 : Int32) (y2 : Int32) : Option (Int32 × MS) :=
  bd (f_X4_isNumber z y1) fun x_2 =>
  if x_2 = 0 then
    bd2 (f_X4_refuses z 1) fun x_5 z_6 =>
    if x_5 = 0 then
      bd (f_X4_ofLine z_6 y1 y2) fun x_9 =>
      some (x_9, z_6)
    else
      some (0, z_6)
  else
    bd (f_X4_in y2 0 11) fun x_11 =>
    if x_11 = 0 then
      bd2 (f_X4_refuses z 2) fun x_14 z_15 =>
      if x_14 = 0 then
        bd (f_X4_ofLine z_15 y1 y2) fun x_18 =>
        some (x_18, z_15)
      else
        some (0, z_15)
    else
      bd2 (f_X4_refuses z 0) fun x_20 z_21 =>
      if x_20 = 0 then
        bd (f_X4_ofLine z_21 y1 y2) fun x_24 =>
        some (x_24, z_21)
      else
        some (0, z_21)

noncomputable def f_X4_lineAt_s5  : Nat → MS → Int32 → Int32 → Int32 → Int32 → Option (Int32)
  | 0, _, _, _, _, _ => none
  | n+1, z, v1, v2, v3, v4 =>
    if ((M_now z) (Int32.toNatClampNeg 0)) ≤ v4 then
      some v3
    else
      bd (f_X4_isOn (M_now z) v4) fun x_3 =>
      if x_3 = 0 then
        nm (v4 + 1) fun x_6 =>
        f_X4_lineAt_s5 n z v1 v2 v3 x_6
      else
        bd (f_X4_of (M_now z) v4 6) fun x_8 =>
        if x_8 = v1 then
          bd (f_X4_span (M_now z) v4) fun x_11 =>
          if ((x_11 >>> (v2 &&& 31)) &&& 1) = 1 then
            nm (v4 + 1) fun x_14 =>
            f_X4_lineAt_s5 n z v1 v2 v4 x_14
          else
            nm (v4 + 1) fun x_16 =>
            f_X4_lineAt_s5 n z v1 v2 v3 x_16
        else
          nm (v4 + 1) fun x_18 =>
          f_X4_lineAt_s5 n z v1 v2 v3 x_18
noncomputable def f_X4_lineAt  (z : MS) (y1 : Int32) (y2 : Int32) : Option (Int32) :=
  f_X4_lineAt_s5 FU z y1 y2 (-1) 0

noncomputable def f_X4_at  (z : MS) (y1 : Int32) (y2 : Int32) : Option (Int32 × MS) :=
  bd (f_X4_in y1 0 15) fun x_2 =>
  if x_2 = 0 then
    bd2 (f_X4_refuses z 1) fun x_5 z_6 =>
    if x_5 = 0 then
      bd (f_X4_lineAt z_6 y1 y2) fun x_9 =>
      some (x_9, z_6)
    else
      some (0, z_6)
  else
    bd (f_X4_in y2 0 23) fun x_11 =>
    if x_11 = 0 then
      bd2 (f_X4_refuses z 1) fun x_14 z_15 =>
      if x_14 = 0 then
        bd (f_X4_lineAt z_15 y1 y2) fun x_18 =>
        some (x_18, z_15)
      else
        some (0, z_15)
    else
      bd2 (f_X4_refuses z 0) fun x_20 z_21 =>
      if x_20 = 0 then
        bd (f_X4_lineAt z_21 y1 y2) fun x_24 =>
        some (x_24, z_21)
      else
        some (0, z_21)

noncomputable def f_X4_lineRead_s4  : Nat → MS → Int32 → Int32 → Int32 → Option (Int32)
  | 0, _, _, _, _ => none
  | n+1, z, v1, v2, v3 =>
    if ((M_now z) (Int32.toNatClampNeg 0)) ≤ v3 then
      some v2
    else
      bd (f_X4_isOn (M_now z) v3) fun x_3 =>
      if x_3 = 0 then
        nm (v3 + 1) fun x_5 =>
        f_X4_lineRead_s4 n z v1 v2 x_5
      else
        bd (f_X4_readAt z v3) fun x_7 =>
        if x_7 = v1 then
          nm (v3 + 1) fun x_9 =>
          f_X4_lineRead_s4 n z v1 v3 x_9
        else
          nm (v3 + 1) fun x_10 =>
          f_X4_lineRead_s4 n z v1 v2 x_10
noncomputable def f_X4_lineRead  (z : MS) (y1 : Int32) : Option (Int32) :=
  f_X4_lineRead_s4 FU z y1 (-1) 0

noncomputable def f_X4_reads  (z : MS) (y1 : Int32) : Option (Int32 × MS) :=
  if 0 ≤ y1 then
    bd2 (f_X4_refuses z 0) fun x_3 z_4 =>
    if x_3 = 0 then
      bd (f_X4_lineRead z_4 y1) fun x_7 =>
      some (x_7, z_4)
    else
      some (0, z_4)
  else
    bd2 (f_X4_refuses z 1) fun x_9 z_10 =>
    if x_9 = 0 then
      bd (f_X4_lineRead z_10 y1) fun x_13 =>
      some (x_13, z_10)
    else
      some (0, z_10)

noncomputable def f_X4_withHow_s4  : Nat → MS → Int32 → Int32 → Int32 → Option (Int32)
  | 0, _, _, _, _ => none
  | n+1, z, v1, v2, v3 =>
    if ((M_now z) (Int32.toNatClampNeg 0)) ≤ v3 then
      some v2
    else
      bd (f_X4_of (M_now z) v3 5) fun x_3 =>
      if x_3 = v1 then
        nm (v2 + 1) fun x_5 =>
        nm (v3 + 1) fun x_6 =>
        f_X4_withHow_s4 n z v1 x_5 x_6
      else
        nm (v2 + 0) fun x_7 =>
        nm (v3 + 1) fun x_8 =>
        f_X4_withHow_s4 n z v1 x_7 x_8
noncomputable def f_X4_withHow  (z : MS) (y1 : Int32) : Option (Int32) :=
  f_X4_withHow_s4 FU z y1 0 0

noncomputable def f_X4_atRest_s4  : Nat → MS → Int32 → Int32 → Option (Int32)
  | 0, _, _, _ => none
  | n+1, z, v1, v2 =>
    if ((M_now z) (Int32.toNatClampNeg 0)) ≤ v2 then
      some v1
    else
      bd (f_X4_isAtRest (M_now z) v2) fun x_3 =>
      if x_3 = 0 then
        nm (v1 + 0) fun x_5 =>
        nm (v2 + 1) fun x_6 =>
        f_X4_atRest_s4 n z x_5 x_6
      else
        nm (v1 + 1) fun x_7 =>
        nm (v2 + 1) fun x_8 =>
        f_X4_atRest_s4 n z x_7 x_8
noncomputable def f_X4_atRest  (z : MS) : Option (Int32) :=
  f_X4_atRest_s4 FU z 0 0

noncomputable def f_X4_topmost_s2  : Nat → MS → Int32 → Option (Int32)
  | 0, _, _ => none
  | n+1, z, v1 =>
    if 16 ≤ v1 then
      some (-1)
    else
      bd (f_X4_full (M_now z) v1) fun x_3 =>
      if x_3 = 0 then
        nm (v1 + 1) fun x_5 =>
        f_X4_topmost_s2 n z x_5
      else
        some v1
noncomputable def f_X4_topmost  (z : MS) : Option (Int32) :=
  f_X4_topmost_s2 FU z 0

noncomputable def f_X4_squares_s4  : Nat → MS → Int32 → Int32 → Option (Int32)
  | 0, _, _, _ => none
  | n+1, z, v1, v2 =>
    if ((M_now z) (Int32.toNatClampNeg 0)) ≤ v2 then
      some v1
    else
      bd (f_X4_isOn (M_now z) v2) fun x_3 =>
      if x_3 = 0 then
        nm (v1 + 0) fun x_5 =>
        nm (v2 + 1) fun x_6 =>
        f_X4_squares_s4 n z x_5 x_6
      else
        bd (f_X4_of (M_now z) v2 0) fun x_8 =>
        nm (v1 + x_8) fun x_9 =>
        nm (v2 + 1) fun x_10 =>
        f_X4_squares_s4 n z x_9 x_10
noncomputable def f_X4_squares  (z : MS) : Option (Int32) :=
  f_X4_squares_s4 FU z 0 0

noncomputable def f_X4_greatestLoad_s4  : Nat → MS → Int32 → Int32 → Option (Int32)
  | 0, _, _, _ => none
  | n+1, z, v1, v2 =>
    if ((M_now z) (Int32.toNatClampNeg 0)) ≤ v2 then
      some v1
    else
      bd (f_X4_load (M_now z) v2) fun x_3 =>
      if x_3 ≤ v1 then
        nm (v2 + 1) fun x_5 =>
        f_X4_greatestLoad_s4 n z v1 x_5
      else
        bd (f_X4_load (M_now z) v2) fun x_7 =>
        nm (v2 + 1) fun x_8 =>
        f_X4_greatestLoad_s4 n z x_7 x_8
noncomputable def f_X4_greatestLoad  (z : MS) : Option (Int32) :=
  f_X4_greatestLoad_s4 FU z 0 0

noncomputable def f_X4_counted  (z : MS) (y1 : Int32) : Option (Int32) :=
  if y1 = Int32.ofInt 0 then
    some ((M_now z) (Int32.toNatClampNeg 1))
  else
    if y1 = Int32.ofInt 1 then
      some ((M_now z) (Int32.toNatClampNeg 0))
    else
      if y1 = Int32.ofInt 2 then
        bd (f_X4_withHow z 0) fun x_5 =>
        some x_5
      else
        if y1 = Int32.ofInt 3 then
          bd (f_X4_withHow z 1) fun x_8 =>
          some x_8
        else
          if y1 = Int32.ofInt 4 then
            bd (f_X4_atRest z) fun x_11 =>
            some x_11
          else
            if y1 = Int32.ofInt 5 then
              bd (f_X4_withHow z 3) fun x_14 =>
              some x_14
            else
              if y1 = Int32.ofInt 6 then
                some ((M_now z) (Int32.toNatClampNeg 3))
              else
                if y1 = Int32.ofInt 7 then
                  bd (f_X4_topmost z) fun x_18 =>
                  some x_18
                else
                  if y1 = Int32.ofInt 8 then
                    bd (f_X4_squares z) fun x_21 =>
                    some x_21
                  else
                    if y1 = Int32.ofInt 9 then
                      bd (f_X4_isAllAtRest (M_now z)) fun x_24 =>
                      if x_24 = 0 then
                        some 0
                      else
                        some 1
                    else
                      if y1 = Int32.ofInt 10 then
                        bd (f_X4_greatestLoad z) fun x_28 =>
                        some x_28
                      else
                        some (M_states z)

noncomputable def f_X4_count  (z : MS) (y1 : Int32) : Option (Int32 × MS) :=
  bd (f_X4_in y1 0 11) fun x_2 =>
  if x_2 = 0 then
    bd2 (f_X4_refuses z 1) fun x_5 z_6 =>
    if x_5 = 0 then
      bd (f_X4_counted z_6 y1) fun x_9 =>
      some (x_9, z_6)
    else
      some (0, z_6)
  else
    bd2 (f_X4_refuses z 0) fun x_11 z_12 =>
    if x_11 = 0 then
      bd (f_X4_counted z_12 y1) fun x_15 =>
      some (x_15, z_12)
    else
      some (0, z_12)

noncomputable def f_X4_restIn  (z : MS) : Option (Int32 × MS) :=
  bd2 (f_X4_lays 81 81 (M_now z) (M_then_ z) 0 0) fun zn_2 zn_3 =>
  nm (M_u_now z zn_2) fun z_4 =>
  nm (M_u_then_ z_4 zn_3) fun z_5 =>
  bd3 (f_X4_rests (M_keys z_5) (M_then_ z_5)) fun x_7 zn_8 zn_9 =>
  nm (M_u_keys z_5 zn_8) fun z_10 =>
  nm (M_u_then_ z_10 zn_9) fun z_11 =>
  some (x_7, z_11)

noncomputable def f_X4_untilRest  (z : MS) : Option (Int32 × MS) :=
  nm (M_u_thrown z 0) fun z_1 =>
  bd2 (f_X4_restIn z_1) fun x_3 z_4 =>
  some (x_3, z_4)

noncomputable def f_X4_dropped  (z : MS) (y1 : Int32) (y2 : Int32) (y3 : Int32) (y4 : Int32) : Option (Int32 × MS) :=
  bd2 (f_X4_lays 81 81 (M_now z) (M_then_ z) 0 0) fun zn_2 zn_3 =>
  nm (M_u_now z zn_2) fun z_4 =>
  nm (M_u_then_ z_4 zn_3) fun z_5 =>
  nm ((M_then_ z_5) (Int32.toNatClampNeg 0)) fun x_6 =>
  bd (f_X4_comes (M_then_ z_5) y1 y2 y3 0 ((M_then_ z_5) (Int32.toNatClampNeg 1))) fun zn_8 =>
  nm (M_u_then_ z_5 zn_8) fun z_9 =>
  bd3 (f_X4_rests (M_keys z_9) (M_then_ z_9)) fun x_11 zn_12 zn_13 =>
  nm (M_u_keys z_9 zn_12) fun z_14 =>
  nm (M_u_then_ z_14 zn_13) fun z_15 =>
  if y4 = 2 then
    some (((M_then_ z_15) (Int32.toNatClampNeg 3)) - ((M_now z_15) (Int32.toNatClampNeg 3)), z_15)
  else
    if x_11 = (-1) then
      some ((-1), z_15)
    else
      bd (f_X4_isOn (M_then_ z_15) x_6) fun x_19 =>
      if x_19 = 0 then
        some ((-1), z_15)
      else
        if y4 = 0 then
          bd (f_X4_of (M_then_ z_15) x_6 6) fun x_23 =>
          some (x_23, z_15)
        else
          bd (f_X4_of (M_then_ z_15) x_6 3) fun x_25 =>
          some (x_25, z_15)

noncomputable def f_X4_ifDropped  (z : MS) (y1 : Int32) (y2 : Int32) (y3 : Int32) (y4 : Int32) : Option (Int32 × MS) :=
  bd (f_X4_isLine y1 y2 y3) fun x_2 =>
  if x_2 = 0 then
    bd2 (f_X4_refuses z 1) fun x_6 z_7 =>
    if x_6 = 0 then
      bd2 (f_X4_dropped z_7 y1 y2 y3 y4) fun x_10 z_11 =>
      some (x_10, z_11)
    else
      some (0, z_7)
  else
    bd (f_X4_in y4 0 2) fun x_13 =>
    if x_13 = 0 then
      bd2 (f_X4_refuses z 1) fun x_17 z_18 =>
      if x_17 = 0 then
        bd2 (f_X4_dropped z_18 y1 y2 y3 y4) fun x_21 z_22 =>
        some (x_21, z_22)
      else
        some (0, z_18)
    else
      bd2 (f_X4_refuses z 0) fun x_25 z_26 =>
      if x_25 = 0 then
        bd2 (f_X4_dropped z_26 y1 y2 y3 y4) fun x_29 z_30 =>
        some (x_29, z_30)
      else
        some (0, z_26)

noncomputable def f_X4_best_s11  : Nat → MS → Int32 → Int32 → Int32 → Int32 → Int32 → Int32 → Option (Int32 × MS)
  | 0, _, _, _, _, _, _, _ => none
  | n+1, z, v1, v2, v3, v4, v5, v6 =>
    if ((24 : Int32) - v1) < v6 then
      some (v3, z)
    else
      bd2 (f_X4_dropped z v1 v2 v6 0) fun x_3 z_4 =>
      nm (((M_then_ z_4) (Int32.toNatClampNeg 3)) - ((M_now z_4) (Int32.toNatClampNeg 3))) fun x_5 =>
      if x_3 = (-1) then
        nm (v6 + 1) fun x_10 =>
        f_X4_best_s11 n z_4 v1 v2 v3 v4 v5 x_10
      else
        if v3 = (-1) then
          nm (v6 + 1) fun x_15 =>
          f_X4_best_s11 n z_4 v1 v2 v6 x_3 x_5 x_15
        else
          if v4 < x_3 then
            nm (v6 + 1) fun x_20 =>
            f_X4_best_s11 n z_4 v1 v2 v6 x_3 x_5 x_20
          else
            if x_3 = v4 then
              if v5 ≤ x_5 then
                nm (v6 + 1) fun x_26 =>
                f_X4_best_s11 n z_4 v1 v2 v3 v4 v5 x_26
              else
                nm (v6 + 1) fun x_30 =>
                f_X4_best_s11 n z_4 v1 v2 v6 x_3 x_5 x_30
            else
              nm (v6 + 1) fun x_34 =>
              f_X4_best_s11 n z_4 v1 v2 v3 v4 v5 x_34
noncomputable def f_X4_best  (z : MS) (y1 : Int32) (y2 : Int32) : Option (Int32 × MS) :=
  f_X4_best_s11 FU z y1 y2 (-1) 0 0 0

noncomputable def f_X4_bestColumn  (z : MS) (y1 : Int32) (y2 : Int32) : Option (Int32 × MS) :=
  bd (f_X4_in y1 1 12) fun x_2 =>
  if x_2 = 0 then
    bd2 (f_X4_refuses z 1) fun x_6 z_7 =>
    if x_6 = 0 then
      bd2 (f_X4_best z_7 y1 y2) fun x_10 z_11 =>
      some (x_10, z_11)
    else
      some (0, z_7)
  else
    bd (f_X4_in y2 1 9) fun x_13 =>
    if x_13 = 0 then
      bd2 (f_X4_refuses z 1) fun x_17 z_18 =>
      if x_17 = 0 then
        bd2 (f_X4_best z_18 y1 y2) fun x_21 z_22 =>
        some (x_21, z_22)
      else
        some (0, z_18)
    else
      bd2 (f_X4_refuses z 0) fun x_25 z_26 =>
      if x_25 = 0 then
        bd2 (f_X4_best z_26 y1 y2) fun x_29 z_30 =>
        some (x_29, z_30)
      else
        some (0, z_26)

noncomputable def f_X4_without_b139  (z : MS) (v2 : Int32) (v3 : Int32) (v4 : Int32) : Option (Int32 × MS) :=
  if v3 = (-1) then
    some ((-1), z)
  else
    if 0 ≤ v2 then
      some (v4, z)
    else
      some ((-1), z)
noncomputable def f_X4_without_s37  : Nat → MS → Int32 → Int32 → Int32 → Int32 → Int32 → Option (Int32 × MS)
  | 0, _, _, _, _, _, _ => none
  | n+1, z, v1, v2, v3, v4, v5 =>
    if ((M_now z) (Int32.toNatClampNeg 0)) ≤ v5 then
      f_X4_without_b139 z v2 v3 v4
    else
      bd (f_X4_isOn (M_now z) v5) fun x_18 =>
      if x_18 = 0 then
        nm (v4 + 0) fun x_21 =>
        nm (v5 + 1) fun x_22 =>
        f_X4_without_s37 n z v1 v2 v3 x_21 x_22
      else
        bd (f_X4_of (M_now z) v5 2) fun x_24 =>
        if x_24 = v1 then
          nm (v4 + 0) fun x_27 =>
          nm (v5 + 1) fun x_28 =>
          f_X4_without_s37 n z v1 v2 v3 x_27 x_28
        else
          bd (f_X4_isOn (M_then_ z) v5) fun x_31 =>
          if x_31 = 0 then
            nm (v4 + 1) fun x_33 =>
            nm (v5 + 1) fun x_34 =>
            f_X4_without_s37 n z v1 v2 v3 x_33 x_34
          else
            bd (f_X4_of (M_then_ z) v5 6) fun x_36 =>
            bd (f_X4_of (M_now z) v5 6) fun x_38 =>
            if x_36 ≤ x_38 then
              nm (v4 + 0) fun x_40 =>
              nm (v5 + 1) fun x_41 =>
              f_X4_without_s37 n z v1 v2 v3 x_40 x_41
            else
              nm (v4 + 1) fun x_42 =>
              nm (v5 + 1) fun x_43 =>
              f_X4_without_s37 n z v1 v2 v3 x_42 x_43
noncomputable def f_X4_without  (z : MS) (y1 : Int32) : Option (Int32 × MS) :=
  bd2 (f_X4_lays 81 81 (M_now z) (M_then_ z) 0 0) fun zn_2 zn_3 =>
  nm (M_u_now z zn_2) fun z_4 =>
  nm (M_u_then_ z_4 zn_3) fun z_5 =>
  bd2 (f_X4_takesAway (M_then_ z_5) y1) fun x_7 zn_8 =>
  nm (M_u_then_ z_5 zn_8) fun z_9 =>
  bd3 (f_X4_rests (M_keys z_9) (M_then_ z_9)) fun x_11 zn_12 zn_13 =>
  nm (M_u_keys z_9 zn_12) fun z_14 =>
  nm (M_u_then_ z_14 zn_13) fun z_15 =>
  f_X4_without_s37 FU z_15 y1 x_7 x_11 0 0

noncomputable def f_X4_ifReset  (z : MS) (y1 : Int32) : Option (Int32 × MS) :=
  bd (f_X4_isVerse y1) fun x_2 =>
  if x_2 = 0 then
    bd2 (f_X4_refuses z 1) fun x_5 z_6 =>
    if x_5 = 0 then
      bd2 (f_X4_without z_6 y1) fun x_9 z_10 =>
      some (x_9, z_10)
    else
      some (0, z_6)
  else
    bd2 (f_X4_refuses z 0) fun x_12 z_13 =>
    if x_12 = 0 then
      bd2 (f_X4_without z_13 y1) fun x_16 z_17 =>
      some (x_16, z_17)
    else
      some (0, z_13)

noncomputable def f_X4_share  (z : MS) : Option (UInt64) :=
  bd (f_X4_squares z) fun x_2 =>
  chn (FP.ddiv (FP.i2d x_2) 4645463015632666624) <|
  some (FP.ddiv (FP.i2d x_2) 4645463015632666624)

noncomputable def f_X4_fullness  (z : MS) : Option (UInt64 × MS) :=
  nm (M_u_thrown z 0) fun z_1 =>
  bd (f_X4_share z_1) fun x_3 =>
  some (x_3, z_1)

noncomputable def f_X4_mix  (z : MS) (y1 : Int64) : Option (MS) :=
  nm (M_u_hash z ((31 * (M_hash z)) + y1)) fun z_1 =>
  some z_1

noncomputable def f_X4_mixScreen_s77  : Nat → MS → Int32 → Option (MS)
  | 0, _, _ => none
  | n+1, z, v1 =>
    if 10 ≤ v1 then
      some z
    else
      bd (f_X4_lineRead z v1) fun x_17 =>
      bd (f_X4_mix z (Int32.toInt64 x_17)) fun z_19 =>
      nm (v1 + 1) fun x_20 =>
      f_X4_mixScreen_s77 n z_19 x_20
noncomputable def f_X4_mixScreen_s45  : Nat → MS → Int32 → Option (MS)
  | 0, _, _ => none
  | n+1, z, v1 =>
    if 384 ≤ v1 then
      f_X4_mixScreen_s77 FU z 0
    else
      bd (f_X4_lineAt z (v1 / 24) (v1 - v1 / 24 * 24)) fun x_11 =>
      bd (f_X4_mix z (Int32.toInt64 x_11)) fun z_13 =>
      nm (v1 + 1) fun x_14 =>
      f_X4_mixScreen_s45 n z_13 x_14
noncomputable def f_X4_mixScreen_s2  : Nat → Nat → MS → Int32 → Int32 → Option (MS)
  | 0, _, _, _, _ => none
  | n+1, 0, z, v1, _ =>
    if ((M_now z) (Int32.toNatClampNeg 0)) ≤ v1 then
      f_X4_mixScreen_s45 FU z 0
    else
      f_X4_mixScreen_s2 n 1 z v1 0
  | n+1, 1, z, v1, v2 =>
    if 12 ≤ v2 then
      nm (v1 + 1) fun x_3 =>
      f_X4_mixScreen_s2 n 0 z x_3 0
    else
      bd (f_X4_ofLine z v1 v2) fun x_5 =>
      bd (f_X4_mix z (Int32.toInt64 x_5)) fun z_7 =>
      nm (v2 + 1) fun x_8 =>
      f_X4_mixScreen_s2 n 1 z_7 v1 x_8
  | _+1, _, _, _, _ => none
noncomputable def f_X4_mixScreen  (z : MS) : Option (MS) :=
  f_X4_mixScreen_s2 FU 0 z 0 0

noncomputable def f_Jxe99ae_isNaN_b9ae7  (y0 : UInt64) : Option (Int32) :=
  if (Op.cmpValue (FP.dcmp y0 y0) .l) = 0 then
    some 0
  else
    some 1

noncomputable def f_Jxe99ae_doubleToLongBits_ccdee  (y0 : UInt64) : Option (Int64) :=
  bd (f_Jxe99ae_isNaN_b9ae7 y0) fun x_2 =>
  if x_2 = 0 then
    some (UInt64.toInt64 y0)
  else
    some 9221120237041090560

noncomputable def f_X4_digest_s143  : Nat → MS → Int32 → Option (Int64 × MS)
  | 0, _, _ => none
  | n+1, z, v1 =>
    if (M_length z) ≤ v1 then
      some ((M_hash z), z)
    else
      chk v1 60 <|
      bd (f_X4_mix z (Int32.toInt64 ((M_buffer z) (Int32.toNatClampNeg v1)))) fun z_48 =>
      nm (v1 + 1) fun x_49 =>
      f_X4_digest_s143 n z_48 x_49
noncomputable def f_X4_digest_b121  (z : MS) : Option (Int64 × MS) :=
  bd (f_X4_share z) fun x_38 =>
  bd (f_Jxe99ae_doubleToLongBits_ccdee x_38) fun x_40 =>
  bd (f_X4_mix z x_40) fun z_42 =>
  bd (f_X4_mix z_42 (Int32.toInt64 (M_length z_42))) fun z_44 =>
  f_X4_digest_s143 FU z_44 0
noncomputable def f_X4_digest_s100  : Nat → MS → Int32 → Option (Int64 × MS)
  | 0, _, _ => none
  | n+1, z, v1 =>
    if 4 ≤ v1 then
      f_X4_digest_b121 z
    else
      bd2 (f_X4_without z v1) fun x_32 z_33 =>
      bd (f_X4_mix z_33 (Int32.toInt64 x_32)) fun z_35 =>
      nm (v1 + 1) fun x_36 =>
      f_X4_digest_s100 n z_35 x_36
noncomputable def f_X4_digest_b86  (z : MS) : Option (Int64 × MS) :=
  bd2 (f_X4_best z 6 2) fun x_26 z_27 =>
  bd (f_X4_mix z_27 (Int32.toInt64 x_26)) fun z_29 =>
  f_X4_digest_s100 FU z_29 0
noncomputable def f_X4_digest_s62  : Nat → MS → Int32 → Option (Int64 × MS)
  | 0, _, _ => none
  | n+1, z, v1 =>
    if 3 ≤ v1 then
      f_X4_digest_b86 z
    else
      bd2 (f_X4_dropped z 5 3 4 v1) fun x_20 z_21 =>
      bd (f_X4_mix z_21 (Int32.toInt64 x_20)) fun z_23 =>
      nm (v1 + 1) fun x_24 =>
      f_X4_digest_s62 n z_23 x_24
noncomputable def f_X4_digest_b36  (z : MS) : Option (Int64 × MS) :=
  bd (f_X4_mix z (Int32.toInt64 ((M_now z) (Int32.toNatClampNeg 2)))) fun z_10 =>
  bd (f_X4_mixScreen z_10) fun z_12 =>
  bd2 (f_X4_restIn z_12) fun x_14 z_15 =>
  bd (f_X4_mix z_15 (Int32.toInt64 x_14)) fun z_17 =>
  f_X4_digest_s62 FU z_17 0
noncomputable def f_X4_digest_s14  : Nat → MS → Int32 → Option (Int64 × MS)
  | 0, _, _ => none
  | n+1, z, v1 =>
    if 12 ≤ v1 then
      f_X4_digest_b36 z
    else
      bd (f_X4_counted z v1) fun x_5 =>
      bd (f_X4_mix z (Int32.toInt64 x_5)) fun z_7 =>
      nm (v1 + 1) fun x_8 =>
      f_X4_digest_s14 n z_7 x_8
noncomputable def f_X4_digest  (z : MS) : Option (Int64 × MS) :=
  nm (M_u_thrown z 0) fun z_1 =>
  nm (M_u_hash z_1 2909) fun z_2 =>
  f_X4_digest_s14 FU z_2 0

