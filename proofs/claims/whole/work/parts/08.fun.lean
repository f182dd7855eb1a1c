/-! The same, of the history, the class and the law. -/
noncomputable def f_X0_dropOldest  (hi : HS) : Option (HS) :=
  chp ((H_sg hi (Int32.toNatClampNeg 1)) < 6) <|
  nm (H_u_sg hi (va_up (H_sg hi) (Int32.toNatClampNeg 0) (H_sg hi (Int32.toNatClampNeg 1)))) fun hi_3 =>
  chp ((H_sg hi_3 (Int32.toNatClampNeg 2)) < 6) <|
  nm (H_u_sg hi_3 (va_up (H_sg hi_3) (Int32.toNatClampNeg 1) (H_sg hi_3 (Int32.toNatClampNeg 2)))) fun hi_6 =>
  chp ((H_sg hi_6 (Int32.toNatClampNeg 3)) < 6) <|
  nm (H_u_sg hi_6 (va_up (H_sg hi_6) (Int32.toNatClampNeg 2) (H_sg hi_6 (Int32.toNatClampNeg 3)))) fun hi_9 =>
  chp ((H_sg hi_9 (Int32.toNatClampNeg 4)) < 6) <|
  nm (H_u_sg hi_9 (va_up (H_sg hi_9) (Int32.toNatClampNeg 3) (H_sg hi_9 (Int32.toNatClampNeg 4)))) fun hi_12 =>
  chp ((H_sg hi_12 (Int32.toNatClampNeg 5)) < 6) <|
  nm (H_u_sg hi_12 (va_up (H_sg hi_12) (Int32.toNatClampNeg 4) (H_sg hi_12 (Int32.toNatClampNeg 5)))) fun hi_15 =>
  chp ((H_sg hi (Int32.toNatClampNeg 0)) < 6) <|
  nm (H_u_sg hi_15 (va_up (H_sg hi_15) (Int32.toNatClampNeg 5) (H_sg hi (Int32.toNatClampNeg 0)))) fun hi_18 =>
  nm (H_u_kept hi_18 5) fun hi_19 =>
  some hi_19

noncomputable def f_X0_keep  (po : PS) (hi : HS) : Option (PS × HS) :=
  if (H_kept hi) < 6 then
    chk (H_kept hi) 6 <|
    chp ((H_sg hi (Int32.toNatClampNeg (H_kept hi))) < 6) <|
    bd2 (f_X1_copyFrom (H_ps hi (H_sg hi (Int32.toNatClampNeg (H_kept hi)))) po) fun p_5 po_6 =>
    nm (H_u_ps hi (va_up (H_ps hi) (H_sg hi (Int32.toNatClampNeg (H_kept hi))) p_5)) fun hi_7 =>
    nm (H_u_kept hi_7 ((H_kept hi_7) + 1)) fun hi_8 =>
    some (po_6, hi_8)
  else
    bd (f_X0_dropOldest hi) fun hi_10 =>
    chk (H_kept hi_10) 6 <|
    chp ((H_sg hi_10 (Int32.toNatClampNeg (H_kept hi_10))) < 6) <|
    bd2 (f_X1_copyFrom (H_ps hi_10 (H_sg hi_10 (Int32.toNatClampNeg (H_kept hi_10)))) po) fun p_14 po_15 =>
    nm (H_u_ps hi_10 (va_up (H_ps hi_10) (H_sg hi_10 (Int32.toNatClampNeg (H_kept hi_10))) p_14)) fun hi_16 =>
    nm (H_u_kept hi_16 ((H_kept hi_16) + 1)) fun hi_17 =>
    some (po_15, hi_17)

noncomputable def f_X0_giveBackTo  (po : PS) (hi : HS) : Option (PS × HS) :=
  if 1 ≤ (H_kept hi) then
    nm (H_u_kept hi ((H_kept hi) - 1)) fun hi_2 =>
    chk (H_kept hi_2) 6 <|
    chp ((H_sg hi_2 (Int32.toNatClampNeg (H_kept hi_2))) < 6) <|
    bd2 (f_X1_copyFrom po (H_ps hi_2 (H_sg hi_2 (Int32.toNatClampNeg (H_kept hi_2))))) fun po_7 p_6 =>
    nm (H_u_ps hi_2 (va_up (H_ps hi_2) (H_sg hi_2 (Int32.toNatClampNeg (H_kept hi_2))) p_6)) fun hi_8 =>
    some (po_7, hi_8)
  else
    some (po, hi)

noncomputable def f_X3_isWidth  (y0 : Int32) : Option (Int32) :=
  if y0 < 1 then
    some 0
  else
    if 12 < y0 then
      some 0
    else
      some 1

noncomputable def f_X3_isWeight  (y0 : Int32) : Option (Int32) :=
  if y0 < 1 then
    some 0
  else
    if 9 < y0 then
      some 0
    else
      some 1

noncomputable def f_X3_isShape  (y0 : Int32) (y1 : Int32) (y2 : Int32) : Option (Int32) :=
  bd (f_X3_isWidth y0) fun x_2 =>
  if x_2 = 0 then
    some 0
  else
    bd (f_X3_isWeight y1) fun x_5 =>
    if x_5 = 0 then
      some 0
    else
      if y2 < 0 then
        some 0
      else
        if 24 ≤ y2 then
          some 0
        else
          if 24 < (y2 + y0) then
            some 0
          else
            some 1

noncomputable def f_X3_isVerse  (y0 : Int32) : Option (Int32) :=
  if y0 < 0 then
    some 0
  else
    if 3 < y0 then
      some 0
    else
      some 1

noncomputable def f_X3_isLineBeat  (y0 : Int32) : Option (Int32) :=
  if y0 < 0 then
    some 0
  else
    if 99 < y0 then
      some 0
    else
      some 1

noncomputable def f_X3_line  (tr : PS) (po : PS) (hi : HS) (tx : TS) (y1 : Int32) (y2 : Int32) (y3 : Int32) (y4 : Int32) (y5 : Int32) : Option (Int32 × Int32 × PS × PS × HS × TS) :=
  bd (f_X3_isShape y1 y2 y3) fun x_2 =>
  if x_2 = 0 then
    some (1, 0, tr, po, hi, tx)
  else
    bd (f_X3_isVerse y4) fun x_5 =>
    if x_5 = 0 then
      some (1, 0, tr, po, hi, tx)
    else
      bd (f_X3_isLineBeat y5) fun x_8 =>
      if x_8 = 0 then
        some (1, 0, tr, po, hi, tx)
      else
        if (P_size po) < 10 then
          bd2 (f_X0_keep po hi) fun po_12 hi_13 =>
          bd2 (f_X1_join po_12 y1 y2 y3 y4 y5) fun x_15 po_16 =>
          some (0, x_15, tr, po_16, hi_13, tx)
        else
          some (2, 0, tr, po, hi, tx)

noncomputable def f_X3_run_s63  : Nat → PS → PS → HS → TS → Int32 → Int32 → Int32 → Option (Int32 × Int32 × PS × PS × HS × TS)
  | 0, _, _, _, _, _, _, _ => none
  | n+1, tr, po, hi, tx, v1, v2, v3 =>
    if v1 ≤ v3 then
      some (0, (P_broken po) - v2, tr, po, hi, tx)
    else
      bd (f_X1_passBeat po) fun po_10 =>
      nm (v3 + 1) fun x_11 =>
      f_X3_run_s63 n tr po_10 hi tx v1 v2 x_11
noncomputable def f_X3_run  (tr : PS) (po : PS) (hi : HS) (tx : TS) (y1 : Int32) : Option (Int32 × Int32 × PS × PS × HS × TS) :=
  if y1 < 1 then
    some (1, 0, tr, po, hi, tx)
  else
    if y1 ≤ 50 then
      if ((P_beat po) + y1) ≤ 999 then
        bd2 (f_X0_keep po hi) fun po_5 hi_6 =>
        nm ((P_broken po_5)) fun x_7 =>
        f_X3_run_s63 FU tr po_5 hi_6 tx y1 x_7 0
      else
        some (2, 0, tr, po, hi, tx)
    else
      some (1, 0, tr, po, hi, tx)

noncomputable def f_X3_reset  (tr : PS) (po : PS) (hi : HS) (tx : TS) (y1 : Int32) : Option (Int32 × Int32 × PS × PS × HS × TS) :=
  bd (f_X3_isVerse y1) fun x_2 =>
  if x_2 = 0 then
    some (1, 0, tr, po, hi, tx)
  else
    bd2 (f_X0_keep po hi) fun po_5 hi_6 =>
    bd2 (f_X1_takeVerseAway po_5 y1) fun x_8 po_9 =>
    some (0, x_8, tr, po_9, hi_6, tx)

noncomputable def f_X3_isNumber  (tr : PS) (po : PS) (hi : HS) (tx : TS) (y1 : Int32) : Option (Int32) :=
  if y1 < 0 then
    some 0
  else
    if (P_size po) ≤ y1 then
      some 0
    else
      some 1

noncomputable def f_X3_push  (tr : PS) (po : PS) (hi : HS) (tx : TS) (y1 : Int32) (y2 : Int32) : Option (Int32 × Int32 × PS × PS × HS × TS) :=
  bd (f_X3_isNumber tr po hi tx y1) fun x_2 =>
  if x_2 = 0 then
    some (1, 0, tr, po, hi, tx)
  else
    bd (f_X1_isFreeBeside po y1 y2) fun x_5 =>
    if x_5 = 0 then
      some (2, 0, tr, po, hi, tx)
    else
      bd2 (f_X0_keep po hi) fun po_8 hi_9 =>
      bd (f_X1_slide po_8 y1 y2) fun po_11 =>
      chk y1 11 <|
      some (0, (P_column po_11) (Int32.toNatClampNeg y1), tr, po_11, hi_9, tx)

noncomputable def f_X3_set  (tr : PS) (po : PS) (hi : HS) (tx : TS) (y1 : Int32) : Option (Int32 × Int32 × PS × PS × HS × TS) :=
  if y1 < 1 then
    some (1, 0, tr, po, hi, tx)
  else
    if y1 ≤ 9 then
      bd2 (f_X0_keep po hi) fun po_4 hi_5 =>
      nm ((P_strength po_4)) fun x_6 =>
      nm (P_u_strength po_4 y1) fun po_7 =>
      some (0, x_6, tr, po_7, hi_5, tx)
    else
      some (1, 0, tr, po, hi, tx)

noncomputable def f_X3_append  (tr : PS) (po : PS) (hi : HS) (tx : TS) (y1 : Int32) : Option (Int32 × Int32 × PS × PS × HS × TS) :=
  if y1 < 33 then
    some (1, 0, tr, po, hi, tx)
  else
    if y1 ≤ 126 then
      if (T_length tx) < 60 then
        bd (f_X2_add tx y1) fun tx_5 =>
        some (0, (T_length tx_5), tr, po, hi, tx_5)
      else
        some (2, 0, tr, po, hi, tx)
    else
      some (1, 0, tr, po, hi, tx)

noncomputable def f_X3_clearBuffer  (tr : PS) (po : PS) (hi : HS) (tx : TS) : Option (Int32 × PS × PS × HS × TS) :=
  nm ((T_length tx)) fun x_1 =>
  nm (T_u_length tx 0) fun tx_2 =>
  some (x_1, tr, po, hi, tx_2)

noncomputable def f_X3_firstError  (tr : PS) (po : PS) (hi : HS) (tx : TS) : Option (Int32 × PS × PS × HS × TS) :=
  bd2 (f_X2_scan tx) fun x_2 tx_3 =>
  some (x_2, tr, po, hi, tx_3)

noncomputable def f_X3_addToldLine  (tr : PS) (po : PS) (hi : HS) (tx : TS) : Option (Int32 × PS × PS × HS × TS) :=
  nm ((T_told tx) (Int32.toNatClampNeg 0)) fun x_1 =>
  nm ((T_told tx) (Int32.toNatClampNeg 1)) fun x_2 =>
  nm ((T_told tx) (Int32.toNatClampNeg 2)) fun x_3 =>
  nm ((P_beat po) + ((T_told tx) (Int32.toNatClampNeg 3))) fun x_4 =>
  bd (f_X3_isShape x_1 x_2 x_3) fun x_6 =>
  if x_6 = 0 then
    some (0, tr, po, hi, tx)
  else
    bd (f_X3_isLineBeat x_4) fun x_9 =>
    if x_9 = 0 then
      some (0, tr, po, hi, tx)
    else
      if (P_size po) < 10 then
        bd2 (f_X1_join po x_1 x_2 x_3 0 x_4) fun x_13 po_14 =>
        some (1, tr, po_14, hi, tx)
      else
        some (0, tr, po, hi, tx)

noncomputable def f_X3_read_b80  (tr : PS) (po : PS) (hi : HS) (tx : TS) (v1 : Int32) : Option (Int32 × Int32 × PS × PS × HS × TS) :=
  nm (T_u_length tx 0) fun tx_22 =>
  some (0, v1, tr, po, hi, tx_22)
noncomputable def f_X3_read_b68  (tr : PS) (po : PS) (hi : HS) (tx : TS) (v1 : Int32) : Option (Int32 × Int32 × PS × PS × HS × TS) :=
  f_X3_read_b80 tr po hi tx v1
noncomputable def f_X3_read_s35  : Nat → PS → PS → HS → TS → Int32 → Int32 → Int32 → Option (Int32 × Int32 × PS × PS × HS × TS)
  | 0, _, _, _, _, _, _, _ => none
  | n+1, tr, po, hi, tx, v1, v2, v3 =>
    if 60 ≤ v3 then
      f_X3_read_b80 tr po hi tx v1
    else
      if (T_length tx) ≤ v2 then
        f_X3_read_b80 tr po hi tx v1
      else
        bd2 (f_X2_scanLine tx v2) fun x_11 tx_12 =>
        bd5 (f_X3_addToldLine tr po hi tx_12) fun x_14 tr_15 po_16 hi_17 tx_18 =>
        if x_14 = 0 then
          f_X3_read_b68 tr_15 po_16 hi_17 tx_18 v1
        else
          nm (v1 + 1) fun x_20 =>
          nm (v3 + 1) fun x_21 =>
          f_X3_read_s35 n tr_15 po_16 hi_17 tx_18 x_20 x_11 x_21
noncomputable def f_X3_read  (tr : PS) (po : PS) (hi : HS) (tx : TS) : Option (Int32 × Int32 × PS × PS × HS × TS) :=
  bd2 (f_X2_tellsPoem tx) fun x_2 tx_3 =>
  if x_2 = 0 then
    some (1, 0, tr, po, hi, tx_3)
  else
    bd2 (f_X0_keep po hi) fun po_6 hi_7 =>
    f_X3_read_s35 FU tr po_6 hi_7 tx_3 0 0 0

noncomputable def f_X3_undo  (tr : PS) (po : PS) (hi : HS) (tx : TS) : Option (Int32 × Int32 × PS × PS × HS × TS) :=
  if 1 ≤ (H_kept hi) then
    bd2 (f_X0_giveBackTo po hi) fun po_3 hi_4 =>
    some (0, (H_kept hi_4), tr, po_3, hi_4, tx)
  else
    some (1, 0, tr, po, hi, tx)

noncomputable def f_X3_lineOf  (tr : PS) (po : PS) (hi : HS) (tx : TS) (y1 : Int32) (y2 : Int32) : Option (Int32 × Int32 × PS × PS × HS × TS) :=
  bd (f_X3_isNumber tr po hi tx y1) fun x_2 =>
  if x_2 = 0 then
    some (1, 0, tr, po, hi, tx)
  else
    if y2 < 0 then
      some (2, 0, tr, po, hi, tx)
    else
      if y2 ≤ 11 then
        bd (f_X1_property po y1 y2) fun x_7 =>
        some (0, x_7, tr, po, hi, tx)
      else
        some (2, 0, tr, po, hi, tx)

noncomputable def f_X3_at  (tr : PS) (po : PS) (hi : HS) (tx : TS) (y1 : Int32) (y2 : Int32) : Option (Int32 × Int32 × PS × PS × HS × TS) :=
  if y1 < 0 then
    some (1, 0, tr, po, hi, tx)
  else
    if 16 ≤ y1 then
      some (1, 0, tr, po, hi, tx)
    else
      if y2 < 0 then
        some (1, 0, tr, po, hi, tx)
      else
        if y2 < 24 then
          bd (f_X1_lineOn po y1 y2) fun x_6 =>
          some (0, x_6, tr, po, hi, tx)
        else
          some (1, 0, tr, po, hi, tx)

noncomputable def f_X3_reads  (tr : PS) (po : PS) (hi : HS) (tx : TS) (y1 : Int32) : Option (Int32 × Int32 × PS × PS × HS × TS) :=
  if 0 ≤ y1 then
    bd (f_X1_readAt po y1) fun x_3 =>
    some (0, x_3, tr, po, hi, tx)
  else
    some (1, 0, tr, po, hi, tx)

noncomputable def f_X3_count  (tr : PS) (po : PS) (hi : HS) (tx : TS) (y1 : Int32) : Option (Int32 × Int32 × PS × PS × HS × TS) :=
  if y1 < 0 then
    some (1, 0, tr, po, hi, tx)
  else
    if y1 ≤ 11 then
      if y1 = 11 then
        some (0, (H_kept hi), tr, po, hi, tx)
      else
        bd (f_X1_tally po y1) fun x_5 =>
        some (0, x_5, tr, po, hi, tx)
    else
      some (1, 0, tr, po, hi, tx)

noncomputable def f_X3_untilRest  (tr : PS) (po : PS) (hi : HS) (tx : TS) : Option (Int32 × PS × PS × HS × TS) :=
  bd2 (f_X1_copyFrom tr po) fun tr_2 po_3 =>
  bd2 (f_X1_settle tr_2) fun x_5 tr_6 =>
  some (x_5, tr_6, po_3, hi, tx)

noncomputable def f_X3_joinTrial  (tr : PS) (po : PS) (hi : HS) (tx : TS) (y1 : Int32) (y2 : Int32) (y3 : Int32) : Option (Int32 × PS × PS × HS × TS) :=
  bd2 (f_X1_copyFrom tr po) fun tr_2 po_3 =>
  bd2 (f_X1_join tr_2 y1 y2 y3 0 (P_beat po_3)) fun x_5 tr_6 =>
  some (x_5, tr_6, po_3, hi, tx)

noncomputable def f_X3_ifDropped  (tr : PS) (po : PS) (hi : HS) (tx : TS) (y1 : Int32) (y2 : Int32) (y3 : Int32) (y4 : Int32) : Option (Int32 × Int32 × PS × PS × HS × TS) :=
  bd (f_X3_isShape y1 y2 y3) fun x_2 =>
  if x_2 = 0 then
    some (1, 0, tr, po, hi, tx)
  else
    if y4 < 0 then
      some (1, 0, tr, po, hi, tx)
    else
      if y4 ≤ 2 then
        bd5 (f_X3_joinTrial tr po hi tx y1 y2 y3) fun x_7 tr_8 po_9 hi_10 tx_11 =>
        bd2 (f_X1_settle tr_8) fun x_13 tr_14 =>
        if y4 = 2 then
          some (0, (P_broken tr_14) - (P_broken po_9), tr_14, po_9, hi_10, tx_11)
        else
          if x_13 = (-1) then
            some (0, (-1), tr_14, po_9, hi_10, tx_11)
          else
            bd (f_X1_isOnScreen tr_14 x_7) fun x_18 =>
            if x_18 = 0 then
              some (0, (-1), tr_14, po_9, hi_10, tx_11)
            else
              if y4 = 0 then
                chk x_7 11 <|
                some (0, (P_row tr_14) (Int32.toNatClampNeg x_7), tr_14, po_9, hi_10, tx_11)
              else
                chk x_7 11 <|
                some (0, (P_column tr_14) (Int32.toNatClampNeg x_7), tr_14, po_9, hi_10, tx_11)
      else
        some (1, 0, tr, po, hi, tx)

noncomputable def f_X3_bestColumn_s33  : Nat → PS → PS → HS → TS → Int32 → Int32 → Int32 → Int32 → Int32 → Int32 → Option (Int32 × Int32 × PS × PS × HS × TS)
  | 0, _, _, _, _, _, _, _, _, _, _ => none
  | n+1, tr, po, hi, tx, v1, v2, v3, v4, v5, v6 =>
    if 24 < (v6 + v1) then
      some (0, v3, tr, po, hi, tx)
    else
      bd5 (f_X3_joinTrial tr po hi tx v1 v2 v6) fun x_9 tr_10 po_11 hi_12 tx_13 =>
      bd2 (f_X1_settle tr_10) fun x_15 tr_16 =>
      if x_15 = (-1) then
        nm (v6 + 1) fun x_18 =>
        f_X3_bestColumn_s33 n tr_16 po_11 hi_12 tx_13 v1 v2 v3 v4 v5 x_18
      else
        bd (f_X1_isOnScreen tr_16 x_9) fun x_20 =>
        if x_20 = 0 then
          nm (v6 + 1) fun x_22 =>
          f_X3_bestColumn_s33 n tr_16 po_11 hi_12 tx_13 v1 v2 v3 v4 v5 x_22
        else
          chk x_9 11 <|
          nm ((P_row tr_16) (Int32.toNatClampNeg x_9)) fun x_24 =>
          nm ((P_broken tr_16) - (P_broken po_11)) fun x_25 =>
          if v4 < x_24 then
            nm (v6 + 1) fun x_27 =>
            f_X3_bestColumn_s33 n tr_16 po_11 hi_12 tx_13 v1 v2 v6 x_24 x_25 x_27
          else
            if x_24 = v4 then
              if v5 ≤ x_25 then
                nm (v6 + 1) fun x_30 =>
                f_X3_bestColumn_s33 n tr_16 po_11 hi_12 tx_13 v1 v2 v3 v4 v5 x_30
              else
                nm (v6 + 1) fun x_31 =>
                f_X3_bestColumn_s33 n tr_16 po_11 hi_12 tx_13 v1 v2 v6 x_24 x_25 x_31
            else
              nm (v6 + 1) fun x_32 =>
              f_X3_bestColumn_s33 n tr_16 po_11 hi_12 tx_13 v1 v2 v3 v4 v5 x_32
noncomputable def f_X3_bestColumn  (tr : PS) (po : PS) (hi : HS) (tx : TS) (y1 : Int32) (y2 : Int32) : Option (Int32 × Int32 × PS × PS × HS × TS) :=
  bd (f_X3_isWidth y1) fun x_2 =>
  if x_2 = 0 then
    some (1, 0, tr, po, hi, tx)
  else
    bd (f_X3_isWeight y2) fun x_5 =>
    if x_5 = 0 then
      some (1, 0, tr, po, hi, tx)
    else
      f_X3_bestColumn_s33 FU tr po hi tx y1 y2 (-1) (-1) 0 0

noncomputable def f_X3_ifReset_s52  : Nat → PS → PS → HS → TS → Int32 → Int32 → Int32 → Option (Int32 × Int32 × PS × PS × HS × TS)
  | 0, _, _, _, _, _, _, _ => none
  | n+1, tr, po, hi, tx, v1, v2, v3 =>
    if (P_size po) ≤ v3 then
      some (0, v2, tr, po, hi, tx)
    else
      bd (f_X1_isOnScreen po v3) fun x_16 =>
      if x_16 = 0 then
        nm (v3 + 1) fun x_19 =>
        f_X3_ifReset_s52 n tr po hi tx v1 v2 x_19
      else
        chk v3 11 <|
        if ((P_verse po) (Int32.toNatClampNeg v3)) = v1 then
          nm (v3 + 1) fun x_23 =>
          f_X3_ifReset_s52 n tr po hi tx v1 v2 x_23
        else
          bd (f_X1_isOnScreen tr v3) fun x_26 =>
          if x_26 = 0 then
            nm (v2 + 1) fun x_28 =>
            nm (v3 + 1) fun x_29 =>
            f_X3_ifReset_s52 n tr po hi tx v1 x_28 x_29
          else
            if ((P_row tr) (Int32.toNatClampNeg v3)) ≤ ((P_row po) (Int32.toNatClampNeg v3)) then
              nm (v3 + 1) fun x_31 =>
              f_X3_ifReset_s52 n tr po hi tx v1 v2 x_31
            else
              nm (v2 + 1) fun x_32 =>
              nm (v3 + 1) fun x_33 =>
              f_X3_ifReset_s52 n tr po hi tx v1 x_32 x_33
noncomputable def f_X3_ifReset  (tr : PS) (po : PS) (hi : HS) (tx : TS) (y1 : Int32) : Option (Int32 × Int32 × PS × PS × HS × TS) :=
  bd (f_X3_isVerse y1) fun x_2 =>
  if x_2 = 0 then
    some (1, 0, tr, po, hi, tx)
  else
    bd2 (f_X1_copyFrom tr po) fun tr_5 po_6 =>
    bd2 (f_X1_takeVerseAway tr_5 y1) fun x_8 tr_9 =>
    bd2 (f_X1_settle tr_9) fun x_11 tr_12 =>
    if x_11 = (-1) then
      some (0, (-1), tr_12, po_6, hi, tx)
    else
      f_X3_ifReset_s52 FU tr_12 po_6 hi tx y1 0 0

noncomputable def f_X3_fullness  (tr : PS) (po : PS) (hi : HS) (tx : TS) : Option (UInt64) :=
  bd (f_X1_squares po) fun x_2 =>
  chn (FP.ddiv (FP.i2d x_2) 4645463015632666624) <|
  some (FP.ddiv (FP.i2d x_2) 4645463015632666624)

noncomputable def f_X3_hashOfLooks_s175  : Nat → PS → PS → HS → TS → Int64 → Int32 → Option (Int64)
  | 0, _, _, _, _, _, _ => none
  | n+1, tr, po, hi, tx, v3, v5 =>
    if 10 ≤ v5 then
      some v3
    else
      bd (f_X1_readAt po v5) fun x_24 =>
      nm ((31 * v3) + (Int32.toInt64 x_24)) fun x_25 =>
      nm (v5 + 1) fun x_26 =>
      f_X3_hashOfLooks_s175 n tr po hi tx x_25 x_26
noncomputable def f_X3_hashOfLooks_s124  : Nat → Nat → PS → PS → HS → TS → Int64 → Int32 → Int32 → Option (Int64)
  | 0, _, _, _, _, _, _, _, _ => none
  | n+1, 0, tr, po, hi, tx, v3, v5, _ =>
    if 16 ≤ v5 then
      f_X3_hashOfLooks_s175 FU tr po hi tx v3 0
    else
      f_X3_hashOfLooks_s124 n 1 tr po hi tx v3 v5 0
  | n+1, 1, tr, po, hi, tx, v3, v5, v6 =>
    if 24 ≤ v6 then
      nm (v5 + 1) fun x_17 =>
      f_X3_hashOfLooks_s124 n 0 tr po hi tx v3 x_17 0
    else
      bd (f_X1_lineOn po v5 v6) fun x_19 =>
      nm ((31 * v3) + (Int32.toInt64 x_19)) fun x_20 =>
      nm (v6 + 1) fun x_21 =>
      f_X3_hashOfLooks_s124 n 1 tr po hi tx x_20 v5 x_21
  | _+1, _, _, _, _, _, _, _, _ => none
noncomputable def f_X3_hashOfLooks_s68  : Nat → Nat → PS → PS → HS → TS → Int64 → Int32 → Int32 → Option (Int64)
  | 0, _, _, _, _, _, _, _, _ => none
  | n+1, 0, tr, po, hi, tx, v3, v5, _ =>
    if (P_size po) ≤ v5 then
      f_X3_hashOfLooks_s124 FU 0 tr po hi tx v3 0 0
    else
      f_X3_hashOfLooks_s68 n 1 tr po hi tx v3 v5 0
  | n+1, 1, tr, po, hi, tx, v3, v5, v6 =>
    if 11 < v6 then
      nm (v5 + 1) fun x_10 =>
      f_X3_hashOfLooks_s68 n 0 tr po hi tx v3 x_10 0
    else
      bd (f_X1_property po v5 v6) fun x_12 =>
      nm ((31 * v3) + (Int32.toInt64 x_12)) fun x_13 =>
      nm (v6 + 1) fun x_14 =>
      f_X3_hashOfLooks_s68 n 1 tr po hi tx x_13 v5 x_14
  | _+1, _, _, _, _, _, _, _, _ => none
noncomputable def f_X3_hashOfLooks_b35  (tr : PS) (po : PS) (hi : HS) (tx : TS) (v3 : Int64) : Option (Int64) :=
  nm ((31 * v3) + (Int32.toInt64 (H_kept hi))) fun x_6 =>
  nm ((31 * x_6) + (Int32.toInt64 (P_strength po))) fun x_7 =>
  f_X3_hashOfLooks_s68 FU 0 tr po hi tx x_7 0 0
noncomputable def f_X3_hashOfLooks_s5  : Nat → PS → PS → HS → TS → Int64 → Int32 → Option (Int64)
  | 0, _, _, _, _, _, _ => none
  | n+1, tr, po, hi, tx, v3, v5 =>
    if 11 ≤ v5 then
      f_X3_hashOfLooks_b35 tr po hi tx v3
    else
      bd (f_X1_tally po v5) fun x_3 =>
      nm ((31 * v3) + (Int32.toInt64 x_3)) fun x_4 =>
      nm (v5 + 1) fun x_5 =>
      f_X3_hashOfLooks_s5 n tr po hi tx x_4 x_5
noncomputable def f_X3_hashOfLooks  (tr : PS) (po : PS) (hi : HS) (tx : TS) (y1 : Int64) : Option (Int64) :=
  f_X3_hashOfLooks_s5 FU tr po hi tx y1 0

noncomputable def f_X3_bitsOf_b49  (v2 : UInt64) (v4 : Int64) : Option (Int64) :=
  chn (FP.dsub v2 FP.dconst1) <|
  chn (FP.dmul (FP.dsub v2 FP.dconst1) 4841369599423283200) <|
  some ((v4 <<< (Int32.toInt64 52 &&& 63)) + (FP.d2l (FP.dmul (FP.dsub v2 FP.dconst1) 4841369599423283200)))
noncomputable def f_X3_bitsOf_s18  : Nat → UInt64 → Int64 → Int32 → Option (Int64)
  | 0, _, _, _ => none
  | n+1, v2, v4, v6 =>
    if 64 ≤ v6 then
      f_X3_bitsOf_b49 v2 v4
    else
      if 0 ≤ (Op.cmpValue (FP.dcmp v2 FP.dconst1) .g) then
        f_X3_bitsOf_b49 v2 v4
      else
        chn (FP.dmul v2 4611686018427387904) <|
        nm (FP.dmul v2 4611686018427387904) fun x_6 =>
        nm (v4 - 1) fun x_7 =>
        nm (v6 + 1) fun x_8 =>
        f_X3_bitsOf_s18 n x_6 x_7 x_8
noncomputable def f_X3_bitsOf  (y0 : UInt64) : Option (Int64) :=
  if 0 < (Op.cmpValue (FP.dcmp y0 FP.dconst0) .l) then
    nm (1023) fun x_2 =>
    f_X3_bitsOf_s18 FU y0 x_2 0
  else
    some 0

noncomputable def f_X3_digest_s121  : Nat → PS → PS → HS → TS → Int64 → Int32 → Option (Int64 × PS × PS × HS × TS)
  | 0, _, _, _, _, _, _ => none
  | n+1, tr, po, hi, tx, v1, v3 =>
    if (T_length tx) ≤ v3 then
      some (v1, tr, po, hi, tx)
    else
      chk v3 60 <|
      nm ((31 * v1) + (Int32.toInt64 ((T_codes tx) (Int32.toNatClampNeg v3)))) fun x_49 =>
      nm (v3 + 1) fun x_50 =>
      f_X3_digest_s121 n tr po hi tx x_49 x_50
noncomputable def f_X3_digest_b90  (tr : PS) (po : PS) (hi : HS) (tx : TS) (v1 : Int64) : Option (Int64 × PS × PS × HS × TS) :=
  bd (f_X3_fullness tr po hi tx) fun x_42 =>
  bd (f_X3_bitsOf x_42) fun x_44 =>
  nm ((31 * v1) + x_44) fun x_45 =>
  nm ((31 * x_45) + (Int32.toInt64 (T_length tx))) fun x_46 =>
  f_X3_digest_s121 FU tr po hi tx x_46 0
noncomputable def f_X3_digest_s66  : Nat → PS → PS → HS → TS → Int64 → Int32 → Option (Int64 × PS × PS × HS × TS)
  | 0, _, _, _, _, _, _ => none
  | n+1, tr, po, hi, tx, v1, v3 =>
    if 3 < v3 then
      f_X3_digest_b90 tr po hi tx v1
    else
      bd6 (f_X3_ifReset tr po hi tx v3) fun k_37 x_32 tr_33 po_34 hi_35 tx_36 =>
      chp (k_37 = 0) <|
      nm ((31 * v1) + (Int32.toInt64 x_32)) fun x_39 =>
      nm (v3 + 1) fun x_40 =>
      f_X3_digest_s66 n tr_33 po_34 hi_35 tx_36 x_39 x_40
noncomputable def f_X3_digest_b49  (tr : PS) (po : PS) (hi : HS) (tx : TS) (v1 : Int64) : Option (Int64 × PS × PS × HS × TS) :=
  bd6 (f_X3_bestColumn tr po hi tx 6 2) fun k_27 x_22 tr_23 po_24 hi_25 tx_26 =>
  chp (k_27 = 0) <|
  nm ((31 * v1) + (Int32.toInt64 x_22)) fun x_29 =>
  f_X3_digest_s66 FU tr_23 po_24 hi_25 tx_26 x_29 0
noncomputable def f_X3_digest_s22  : Nat → PS → PS → HS → TS → Int64 → Int32 → Option (Int64 × PS × PS × HS × TS)
  | 0, _, _, _, _, _, _ => none
  | n+1, tr, po, hi, tx, v1, v3 =>
    if 2 < v3 then
      f_X3_digest_b49 tr po hi tx v1
    else
      bd6 (f_X3_ifDropped tr po hi tx 5 3 4 v3) fun k_17 x_12 tr_13 po_14 hi_15 tx_16 =>
      chp (k_17 = 0) <|
      nm ((31 * v1) + (Int32.toInt64 x_12)) fun x_19 =>
      nm (v3 + 1) fun x_20 =>
      f_X3_digest_s22 n tr_13 po_14 hi_15 tx_16 x_19 x_20
noncomputable def f_X3_digest  (tr : PS) (po : PS) (hi : HS) (tx : TS) : Option (Int64 × PS × PS × HS × TS) :=
  bd (f_X3_hashOfLooks tr po hi tx 2909) fun x_2 =>
  bd5 (f_X3_untilRest tr po hi tx) fun x_4 tr_5 po_6 hi_7 tx_8 =>
  nm ((31 * x_2) + (Int32.toInt64 x_4)) fun x_9 =>
  f_X3_digest_s22 FU tr_5 po_6 hi_7 tx_8 x_9 0

noncomputable def f_L_line  (tr : PS) (po : PS) (hi : HS) (tx : TS) (ou : Nat → Int64) (y1 : Int32) (y2 : Int32) (y3 : Int32) (y4 : Int32) (y5 : Int32) : Option (Int32 × PS × PS × HS × TS × (Nat → Int64)) :=
  bd6 (f_X3_line tr po hi tx y1 y2 y3 y4 y5) fun k_7 x_2 tr_3 po_4 hi_5 tx_6 =>
  if k_7 = 0 then
    nm (vp_updL ou (Int32.toNatClampNeg 0) (Int32.toInt64 x_2)) fun ou_8 =>
    some (0, tr_3, po_4, hi_5, tx_6, ou_8)
  else
    if k_7 = 1 then
      some (1, tr_3, po_4, hi_5, tx_6, ou)
    else
      some (2, tr_3, po_4, hi_5, tx_6, ou)

noncomputable def f_L_run  (tr : PS) (po : PS) (hi : HS) (tx : TS) (ou : Nat → Int64) (y1 : Int32) : Option (Int32 × PS × PS × HS × TS × (Nat → Int64)) :=
  bd6 (f_X3_run tr po hi tx y1) fun k_7 x_2 tr_3 po_4 hi_5 tx_6 =>
  if k_7 = 0 then
    nm (vp_updL ou (Int32.toNatClampNeg 0) (Int32.toInt64 x_2)) fun ou_8 =>
    some (0, tr_3, po_4, hi_5, tx_6, ou_8)
  else
    if k_7 = 1 then
      some (1, tr_3, po_4, hi_5, tx_6, ou)
    else
      some (2, tr_3, po_4, hi_5, tx_6, ou)

noncomputable def f_L_reset  (tr : PS) (po : PS) (hi : HS) (tx : TS) (ou : Nat → Int64) (y1 : Int32) : Option (Int32 × PS × PS × HS × TS × (Nat → Int64)) :=
  bd6 (f_X3_reset tr po hi tx y1) fun k_7 x_2 tr_3 po_4 hi_5 tx_6 =>
  if k_7 = 0 then
    nm (vp_updL ou (Int32.toNatClampNeg 0) (Int32.toInt64 x_2)) fun ou_8 =>
    some (0, tr_3, po_4, hi_5, tx_6, ou_8)
  else
    some (1, tr_3, po_4, hi_5, tx_6, ou)

noncomputable def f_L_push  (tr : PS) (po : PS) (hi : HS) (tx : TS) (ou : Nat → Int64) (y1 : Int32) (y2 : Int32) : Option (Int32 × PS × PS × HS × TS × (Nat → Int64)) :=
  bd6 (f_X3_push tr po hi tx y1 y2) fun k_7 x_2 tr_3 po_4 hi_5 tx_6 =>
  if k_7 = 0 then
    nm (vp_updL ou (Int32.toNatClampNeg 0) (Int32.toInt64 x_2)) fun ou_8 =>
    some (0, tr_3, po_4, hi_5, tx_6, ou_8)
  else
    if k_7 = 1 then
      some (1, tr_3, po_4, hi_5, tx_6, ou)
    else
      some (2, tr_3, po_4, hi_5, tx_6, ou)

noncomputable def f_L_set  (tr : PS) (po : PS) (hi : HS) (tx : TS) (ou : Nat → Int64) (y1 : Int32) : Option (Int32 × PS × PS × HS × TS × (Nat → Int64)) :=
  bd6 (f_X3_set tr po hi tx y1) fun k_7 x_2 tr_3 po_4 hi_5 tx_6 =>
  if k_7 = 0 then
    nm (vp_updL ou (Int32.toNatClampNeg 0) (Int32.toInt64 x_2)) fun ou_8 =>
    some (0, tr_3, po_4, hi_5, tx_6, ou_8)
  else
    some (1, tr_3, po_4, hi_5, tx_6, ou)

noncomputable def f_L_append  (tr : PS) (po : PS) (hi : HS) (tx : TS) (ou : Nat → Int64) (y1 : Int32) : Option (Int32 × PS × PS × HS × TS × (Nat → Int64)) :=
  bd6 (f_X3_append tr po hi tx y1) fun k_7 x_2 tr_3 po_4 hi_5 tx_6 =>
  if k_7 = 0 then
    nm (vp_updL ou (Int32.toNatClampNeg 0) (Int32.toInt64 x_2)) fun ou_8 =>
    some (0, tr_3, po_4, hi_5, tx_6, ou_8)
  else
    if k_7 = 1 then
      some (1, tr_3, po_4, hi_5, tx_6, ou)
    else
      some (2, tr_3, po_4, hi_5, tx_6, ou)

noncomputable def f_L_read  (tr : PS) (po : PS) (hi : HS) (tx : TS) (ou : Nat → Int64) : Option (Int32 × PS × PS × HS × TS × (Nat → Int64)) :=
  bd6 (f_X3_read tr po hi tx) fun k_7 x_2 tr_3 po_4 hi_5 tx_6 =>
  if k_7 = 0 then
    nm (vp_updL ou (Int32.toNatClampNeg 0) (Int32.toInt64 x_2)) fun ou_8 =>
    some (0, tr_3, po_4, hi_5, tx_6, ou_8)
  else
    some (1, tr_3, po_4, hi_5, tx_6, ou)

noncomputable def f_L_undo  (tr : PS) (po : PS) (hi : HS) (tx : TS) (ou : Nat → Int64) : Option (Int32 × PS × PS × HS × TS × (Nat → Int64)) :=
  bd6 (f_X3_undo tr po hi tx) fun k_7 x_2 tr_3 po_4 hi_5 tx_6 =>
  if k_7 = 0 then
    nm (vp_updL ou (Int32.toNatClampNeg 0) (Int32.toInt64 x_2)) fun ou_8 =>
    some (0, tr_3, po_4, hi_5, tx_6, ou_8)
  else
    some (1, tr_3, po_4, hi_5, tx_6, ou)

noncomputable def f_L_lineOf  (tr : PS) (po : PS) (hi : HS) (tx : TS) (ou : Nat → Int64) (y1 : Int32) (y2 : Int32) : Option (Int32 × PS × PS × HS × TS × (Nat → Int64)) :=
  bd6 (f_X3_lineOf tr po hi tx y1 y2) fun k_7 x_2 tr_3 po_4 hi_5 tx_6 =>
  if k_7 = 0 then
    nm (vp_updL ou (Int32.toNatClampNeg 0) (Int32.toInt64 x_2)) fun ou_8 =>
    some (0, tr_3, po_4, hi_5, tx_6, ou_8)
  else
    if k_7 = 1 then
      some (1, tr_3, po_4, hi_5, tx_6, ou)
    else
      some (2, tr_3, po_4, hi_5, tx_6, ou)

noncomputable def f_L_at  (tr : PS) (po : PS) (hi : HS) (tx : TS) (ou : Nat → Int64) (y1 : Int32) (y2 : Int32) : Option (Int32 × PS × PS × HS × TS × (Nat → Int64)) :=
  bd6 (f_X3_at tr po hi tx y1 y2) fun k_7 x_2 tr_3 po_4 hi_5 tx_6 =>
  if k_7 = 0 then
    nm (vp_updL ou (Int32.toNatClampNeg 0) (Int32.toInt64 x_2)) fun ou_8 =>
    some (0, tr_3, po_4, hi_5, tx_6, ou_8)
  else
    some (1, tr_3, po_4, hi_5, tx_6, ou)

noncomputable def f_L_reads  (tr : PS) (po : PS) (hi : HS) (tx : TS) (ou : Nat → Int64) (y1 : Int32) : Option (Int32 × PS × PS × HS × TS × (Nat → Int64)) :=
  bd6 (f_X3_reads tr po hi tx y1) fun k_7 x_2 tr_3 po_4 hi_5 tx_6 =>
  if k_7 = 0 then
    nm (vp_updL ou (Int32.toNatClampNeg 0) (Int32.toInt64 x_2)) fun ou_8 =>
    some (0, tr_3, po_4, hi_5, tx_6, ou_8)
  else
    some (1, tr_3, po_4, hi_5, tx_6, ou)

noncomputable def f_L_count  (tr : PS) (po : PS) (hi : HS) (tx : TS) (ou : Nat → Int64) (y1 : Int32) : Option (Int32 × PS × PS × HS × TS × (Nat → Int64)) :=
  bd6 (f_X3_count tr po hi tx y1) fun k_7 x_2 tr_3 po_4 hi_5 tx_6 =>
  if k_7 = 0 then
    nm (vp_updL ou (Int32.toNatClampNeg 0) (Int32.toInt64 x_2)) fun ou_8 =>
    some (0, tr_3, po_4, hi_5, tx_6, ou_8)
  else
    some (1, tr_3, po_4, hi_5, tx_6, ou)

noncomputable def f_L_ifDropped  (tr : PS) (po : PS) (hi : HS) (tx : TS) (ou : Nat → Int64) (y1 : Int32) (y2 : Int32) (y3 : Int32) (y4 : Int32) : Option (Int32 × PS × PS × HS × TS × (Nat → Int64)) :=
  bd6 (f_X3_ifDropped tr po hi tx y1 y2 y3 y4) fun k_7 x_2 tr_3 po_4 hi_5 tx_6 =>
  if k_7 = 0 then
    nm (vp_updL ou (Int32.toNatClampNeg 0) (Int32.toInt64 x_2)) fun ou_8 =>
    some (0, tr_3, po_4, hi_5, tx_6, ou_8)
  else
    some (1, tr_3, po_4, hi_5, tx_6, ou)

noncomputable def f_L_bestColumn  (tr : PS) (po : PS) (hi : HS) (tx : TS) (ou : Nat → Int64) (y1 : Int32) (y2 : Int32) : Option (Int32 × PS × PS × HS × TS × (Nat → Int64)) :=
  bd6 (f_X3_bestColumn tr po hi tx y1 y2) fun k_7 x_2 tr_3 po_4 hi_5 tx_6 =>
  if k_7 = 0 then
    nm (vp_updL ou (Int32.toNatClampNeg 0) (Int32.toInt64 x_2)) fun ou_8 =>
    some (0, tr_3, po_4, hi_5, tx_6, ou_8)
  else
    some (1, tr_3, po_4, hi_5, tx_6, ou)

noncomputable def f_L_ifReset  (tr : PS) (po : PS) (hi : HS) (tx : TS) (ou : Nat → Int64) (y1 : Int32) : Option (Int32 × PS × PS × HS × TS × (Nat → Int64)) :=
  bd6 (f_X3_ifReset tr po hi tx y1) fun k_7 x_2 tr_3 po_4 hi_5 tx_6 =>
  if k_7 = 0 then
    nm (vp_updL ou (Int32.toNatClampNeg 0) (Int32.toInt64 x_2)) fun ou_8 =>
    some (0, tr_3, po_4, hi_5, tx_6, ou_8)
  else
    some (1, tr_3, po_4, hi_5, tx_6, ou)

