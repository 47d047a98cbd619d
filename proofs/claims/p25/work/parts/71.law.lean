def f_L_law_b1364 (G : gG) (xs : Nat → Int32) (N : Nat) (K4 : gH → Int32 → Int32 → Option (Int32 × gH)) (h : gH) (l2 : Int32) (s0 : Int32) : Option (Int32 × gH) :=
  K4 h s0 (l2 + 1)
def f_L_law_b1363 (G : gG) (xs : Nat → Int32) (N : Nat) (K4 : gH → Int32 → Int32 → Option (Int32 × gH)) (h : gH) (l2 : Int32) : Option (Int32 × gH) :=
  f_L_law_b1364 G xs N K4 h l2 0
def f_L_law_b1277 (G : gG) (xs : Nat → Int32) (N : Nat) (K4 : gH → Int32 → Int32 → Option (Int32 × gH)) (h : gH) (l1 : Int32) (l2 : Int32) (l3 : Nat) : Option (Int32 × gH) :=
  (if l1 = 0 then
    f_L_law_b1363 G xs N K4 h l2
  else
    (f_L_load G h l3 501).bind fun y1285 =>
    (if y1285.1 = (-2000000098) then
      (f_L_foretold G y1285.2 l3 3).bind fun y1295 =>
      (if y1295.1 = (-2000000098) then
        (f_L_leastPower G y1295.2 l3 2).bind fun y1305 =>
        (if y1305.1 = (-2000000097) then
          (f_L_mist G y1305.2 l3 20001).bind fun y1317 =>
          (if y1317.1 = (-2000000098) then
            (f_L_key G y1317.2 l3 2 0).bind fun y1328 =>
            (if y1328.1 = (-2000000097) then
              (f_L_channel G y1328.2 l3 0 6).bind fun y1340 =>
              (if y1340.1 = (-2000000098) then
                (f_L_why G y1340.2 l3 (-1) 0).bind fun y1351 =>
                (if y1351.1 = (-2000000097) then
                  f_L_law_b1364 G xs N K4 y1351.2 l2 1
                else
                  f_L_law_b1363 G xs N K4 y1351.2 l2)
              else
                f_L_law_b1363 G xs N K4 y1340.2 l2)
            else
              f_L_law_b1363 G xs N K4 y1328.2 l2)
          else
            f_L_law_b1363 G xs N K4 y1317.2 l2)
        else
          f_L_law_b1363 G xs N K4 y1305.2 l2)
      else
        f_L_law_b1363 G xs N K4 y1295.2 l2)
    else
      f_L_law_b1363 G xs N K4 y1285.2 l2))
def f_L_law_b1270 (G : gG) (xs : Nat → Int32) (N : Nat) (K4 : gH → Int32 → Int32 → Option (Int32 × gH)) (K1228 : gH → Int32 → Int32 → Nat → Nat → Int32 → Int32 → Option (Int32 × gH)) (h : gH) (l2 : Int32) (l3 : Nat) (l7 : Nat) (l8 : Int32) (l9 : Int32) (s0 : Int32) : Option (Int32 × gH) :=
  K1228 h s0 l2 l3 l7 l8 (l9 + 1)
def f_L_law_b1269 (G : gG) (xs : Nat → Int32) (N : Nat) (K4 : gH → Int32 → Int32 → Option (Int32 × gH)) (K1228 : gH → Int32 → Int32 → Nat → Nat → Int32 → Int32 → Option (Int32 × gH)) (h : gH) (l2 : Int32) (l3 : Nat) (l7 : Nat) (l8 : Int32) (l9 : Int32) : Option (Int32 × gH) :=
  f_L_law_b1270 G xs N K4 K1228 h l2 l3 l7 l8 l9 0
def f_L_law_b1228 (G : gG) (xs : Nat → Int32) (N : Nat) (K4 : gH → Int32 → Int32 → Option (Int32 × gH)) : Nat → gH → Int32 → Int32 → Nat → Nat → Int32 → Int32 → Option (Int32 × gH)
  | 0, _, _, _, _, _, _, _ => none
  | n + 1, h, l1, l2, l3, l7, l8, l9 =>
    (if l9 < 8 then
      (if l9 < l8 then
        (if l1 = 0 then
          f_L_law_b1277 G xs N K4 h l1 l2 l3
        else
          bif g_is h l3 7 then
          (f_X7_undo h l3).bind fun y1247 =>
          (if 0 ≤ y1247.1 then
            (g_qld y1247.2 l7 9 l9).bind fun v1258 =>
            v1258.bind fun v1258n =>
            (f_L_agrees G y1247.2 l3 v1258n).bind fun y1259 =>
            (if y1259.1 = 0 then
              f_L_law_b1269 G xs N K4 (f_L_law_b1228 G xs N K4 n) y1259.2 l2 l3 l7 l8 l9
            else
              f_L_law_b1270 G xs N K4 (f_L_law_b1228 G xs N K4 n) y1259.2 l2 l3 l7 l8 l9 1)
          else
            f_L_law_b1269 G xs N K4 (f_L_law_b1228 G xs N K4 n) y1247.2 l2 l3 l7 l8 l9)
          else none)
      else
        f_L_law_b1277 G xs N K4 h l1 l2 l3)
    else
      f_L_law_b1277 G xs N K4 h l1 l2 l3)
def f_L_law_b1225 (G : gG) (xs : Nat → Int32) (N : Nat) (K4 : gH → Int32 → Int32 → Option (Int32 × gH)) (h : gH) (l1 : Int32) (l2 : Int32) (l3 : Nat) (l7 : Nat) (l8 : Int32) : Option (Int32 × gH) :=
  f_L_law_b1228 G xs N K4 10 h l1 l2 l3 l7 l8 0
def f_L_law_b1218 (G : gG) (xs : Nat → Int32) (N : Nat) (K4 : gH → Int32 → Int32 → Option (Int32 × gH)) (K247 : gH → Int32 → Int32 → Nat → Nat → Nat → Nat → Nat → Int32 → Int32 → Option (Int32 × gH)) (h : gH) (l2 : Int32) (l3 : Nat) (l4 : Nat) (l5 : Nat) (l6 : Nat) (l7 : Nat) (l8 : Int32) (l9 : Int32) (s0 : Int32) : Option (Int32 × gH) :=
  K247 h s0 l2 l3 l4 l5 l6 l7 l8 (l9 + 1)
def f_L_law_b1217 (G : gG) (xs : Nat → Int32) (N : Nat) (K4 : gH → Int32 → Int32 → Option (Int32 × gH)) (K247 : gH → Int32 → Int32 → Nat → Nat → Nat → Nat → Nat → Int32 → Int32 → Option (Int32 × gH)) (h : gH) (l2 : Int32) (l3 : Nat) (l4 : Nat) (l5 : Nat) (l6 : Nat) (l7 : Nat) (l8 : Int32) (l9 : Int32) : Option (Int32 × gH) :=
  f_L_law_b1218 G xs N K4 K247 h l2 l3 l4 l5 l6 l7 l8 l9 0
def f_L_law_b1200 (G : gG) (xs : Nat → Int32) (N : Nat) (K4 : gH → Int32 → Int32 → Option (Int32 × gH)) (K247 : gH → Int32 → Int32 → Nat → Nat → Nat → Nat → Nat → Int32 → Int32 → Option (Int32 × gH)) (h : gH) (l1 : Int32) (l2 : Int32) (l3 : Nat) (l4 : Nat) (l5 : Nat) (l6 : Nat) (l7 : Nat) (l8 : Int32) (l9 : Int32) : Option (Int32 × gH) :=
  (if l1 = 0 then
    f_L_law_b1217 G xs N K4 K247 h l2 l3 l4 l5 l6 l7 l8 l9
  else
    (f_L_agrees G h l3 l6).bind fun y1207 =>
    (if y1207.1 = 0 then
      f_L_law_b1217 G xs N K4 K247 y1207.2 l2 l3 l4 l5 l6 l7 l8 l9
    else
      f_L_law_b1218 G xs N K4 K247 y1207.2 l2 l3 l4 l5 l6 l7 l8 l9 1))
def f_L_law_b1168 (G : gG) (xs : Nat → Int32) (N : Nat) (K4 : gH → Int32 → Int32 → Option (Int32 × gH)) (K247 : gH → Int32 → Int32 → Nat → Nat → Nat → Nat → Nat → Int32 → Int32 → Option (Int32 × gH)) : Nat → gH → Int32 → Int32 → Nat → Nat → Nat → Nat → Nat → Int32 → Int32 → Nat → Int32 → Option (Int32 × gH)
  | 0, _, _, _, _, _, _, _, _, _, _, _, _ => none
  | n + 1, h, l1, l2, l3, l4, l5, l6, l7, l8, l9, l10, l13 =>
    (if 0 < l13 then
      (g_qld h l7 9 (l13 - 1)).bind fun v1183 =>
      (g_qsO h l7 9 10 l13 v1183).bind fun h1184 =>
      f_L_law_b1168 G xs N K4 K247 n h1184 l1 l2 l3 l4 l5 l6 l7 l8 l9 l10 (l13 + (-1))
    else
      bif g_is h l10 10 then (g_qst h l7 9 0 l10).bind fun h1196 =>
      f_L_law_b1200 G xs N K4 K247 h1196 l1 l2 l3 l4 l5 l6 l7 (l8 + 1) l9
      else none)
def f_L_law_b1159 (G : gG) (xs : Nat → Int32) (N : Nat) (K4 : gH → Int32 → Int32 → Option (Int32 × gH)) (K247 : gH → Int32 → Int32 → Nat → Nat → Nat → Nat → Nat → Int32 → Int32 → Option (Int32 × gH)) (h : gH) (l1 : Int32) (l2 : Int32) (l3 : Nat) (l4 : Nat) (l5 : Nat) (l6 : Nat) (l7 : Nat) (l8 : Int32) (l9 : Int32) (l10 : Nat) (l11 : Int32) : Option (Int32 × gH) :=
  (if l11 = 0 then
    f_L_law_b1200 G xs N K4 K247 h l1 l2 l3 l4 l5 l6 l7 l8 l9
  else
    f_L_law_b1168 G xs N K4 K247 g_N h l1 l2 l3 l4 l5 l6 l7 l8 l9 l10 8)
def f_L_law_b384 (G : gG) (xs : Nat → Int32) (N : Nat) (K4 : gH → Int32 → Int32 → Option (Int32 × gH)) (K247 : gH → Int32 → Int32 → Nat → Nat → Nat → Nat → Nat → Int32 → Int32 → Option (Int32 × gH)) (h : gH) (l2 : Int32) (l3 : Nat) (l4 : Nat) (l5 : Nat) (l6 : Nat) (l7 : Nat) (l8 : Int32) (l9 : Int32) (l10 : Nat) (l11 : Int32) (s0 : Int32) : Option (Int32 × gH) :=
  f_L_law_b1159 G xs N K4 K247 h s0 l2 l3 l4 l5 l6 l7 l8 l9 l10 l11
def f_L_law_b345 (G : gG) (xs : Nat → Int32) (N : Nat) (K4 : gH → Int32 → Int32 → Option (Int32 × gH)) (K247 : gH → Int32 → Int32 → Nat → Nat → Nat → Nat → Nat → Int32 → Int32 → Option (Int32 × gH)) : Nat → gH → Int32 → Nat → Nat → Nat → Nat → Nat → Int32 → Int32 → Nat → Int32 → Int32 → Int32 → Int32 → Option (Int32 × gH)
  | 0, _, _, _, _, _, _, _, _, _, _, _, _, _, _ => none
  | n + 1, h, l2, l3, l4, l5, l6, l7, l8, l9, l10, l11, l13, l14, l15 =>
    (if l15 < l13 then
      bif g_is h l6 10 then
      (f_X10_ticks G h l6).bind fun y356 =>
      f_L_law_b345 G xs N K4 K247 n y356.2 l2 l3 l4 l5 l6 l7 l8 l9 l10 l11 l13 (l14 + y356.1) (l15 + 1)
      else none
    else
      (f_L_pass G h l3 l13).bind fun y371 =>
      (if y371.1 = l14 then
        f_L_law_b384 G xs N K4 K247 y371.2 l2 l3 l4 l5 l6 l7 l8 l9 l10 l11 1
      else
        f_L_law_b384 G xs N K4 K247 y371.2 l2 l3 l4 l5 l6 l7 l8 l9 l10 l11 0))
def f_L_law_b498 (G : gG) (xs : Nat → Int32) (N : Nat) (K4 : gH → Int32 → Int32 → Option (Int32 × gH)) (K247 : gH → Int32 → Int32 → Nat → Nat → Nat → Nat → Nat → Int32 → Int32 → Option (Int32 × gH)) (h : gH) (l2 : Int32) (l3 : Nat) (l4 : Nat) (l5 : Nat) (l6 : Nat) (l7 : Nat) (l8 : Int32) (l9 : Int32) (l10 : Nat) (l11 : Int32) (s0 : Int32) : Option (Int32 × gH) :=
  f_L_law_b1159 G xs N K4 K247 h s0 l2 l3 l4 l5 l6 l7 l8 l9 l10 l11
def f_L_law_b497 (G : gG) (xs : Nat → Int32) (N : Nat) (K4 : gH → Int32 → Int32 → Option (Int32 × gH)) (K247 : gH → Int32 → Int32 → Nat → Nat → Nat → Nat → Nat → Int32 → Int32 → Option (Int32 × gH)) (h : gH) (l2 : Int32) (l3 : Nat) (l4 : Nat) (l5 : Nat) (l6 : Nat) (l7 : Nat) (l8 : Int32) (l9 : Int32) (l10 : Nat) (l11 : Int32) : Option (Int32 × gH) :=
  f_L_law_b498 G xs N K4 K247 h l2 l3 l4 l5 l6 l7 l8 l9 l10 l11 0
def f_L_law_b473 (G : gG) (xs : Nat → Int32) (N : Nat) (K4 : gH → Int32 → Int32 → Option (Int32 × gH)) (K247 : gH → Int32 → Int32 → Nat → Nat → Nat → Nat → Nat → Int32 → Int32 → Option (Int32 × gH)) (h : gH) (l2 : Int32) (l3 : Nat) (l4 : Nat) (l5 : Nat) (l6 : Nat) (l7 : Nat) (l8 : Int32) (l9 : Int32) (l10 : Nat) (l11 : Int32) (s0 : Int32) : Option (Int32 × gH) :=
  (if l11 = 0 then
    (if s0 = 0 then
      f_L_law_b497 G xs N K4 K247 h l2 l3 l4 l5 l6 l7 l8 l9 l10 l11
    else
      (f_L_load G h l3 0).bind fun y485 =>
      (if y485.1 = (-2) then
        f_L_law_b498 G xs N K4 K247 y485.2 l2 l3 l4 l5 l6 l7 l8 l9 l10 l11 1
      else
        f_L_law_b497 G xs N K4 K247 y485.2 l2 l3 l4 l5 l6 l7 l8 l9 l10 l11))
  else
    f_L_law_b1159 G xs N K4 K247 h s0 l2 l3 l4 l5 l6 l7 l8 l9 l10 l11)
def f_L_law_b465 (G : gG) (xs : Nat → Int32) (N : Nat) (K4 : gH → Int32 → Int32 → Option (Int32 × gH)) (K247 : gH → Int32 → Int32 → Nat → Nat → Nat → Nat → Nat → Int32 → Int32 → Option (Int32 × gH)) (h : gH) (l2 : Int32) (l3 : Nat) (l4 : Nat) (l5 : Nat) (l6 : Nat) (l7 : Nat) (l8 : Int32) (l9 : Int32) (l10 : Nat) (l11 : Int32) (s0 : Int32) (s1 : Int32) : Option (Int32 × gH) :=
  (if s1 = s0 then
    f_L_law_b473 G xs N K4 K247 h l2 l3 l4 l5 l6 l7 l8 l9 l10 l11 1
  else
    f_L_law_b473 G xs N K4 K247 h l2 l3 l4 l5 l6 l7 l8 l9 l10 l11 0)
def f_L_law_b432 (G : gG) (xs : Nat → Int32) (N : Nat) (K4 : gH → Int32 → Int32 → Option (Int32 × gH)) (K247 : gH → Int32 → Int32 → Nat → Nat → Nat → Nat → Nat → Int32 → Int32 → Option (Int32 × gH)) (h : gH) (l2 : Int32) (l3 : Nat) (l4 : Nat) (l5 : Nat) (l6 : Nat) (l7 : Nat) (l8 : Int32) (l9 : Int32) (l10 : Nat) (l11 : Int32) (l12 : Int32) (l15 : Nat) : Option (Int32 × gH) :=
  (f_L_sendText G h l3 l4 l15 l12 (g_rem l9 10)).bind fun y444 =>
  (if l11 = 0 then
    f_L_law_b465 G xs N K4 K247 y444.2 l2 l3 l4 l5 l6 l7 l8 l9 l10 l11 (-2000000099) y444.1
  else
    (g_gA y444.2 l6 10 1).bind fun v454 =>
    (g_aln y444.2 v454).bind fun v457 =>
    f_L_law_b465 G xs N K4 K247 y444.2 l2 l3 l4 l5 l6 l7 l8 l9 l10 l11 (v457 - 1) y444.1)
def f_L_law_b411 (G : gG) (xs : Nat → Int32) (N : Nat) (K4 : gH → Int32 → Int32 → Option (Int32 × gH)) (K247 : gH → Int32 → Int32 → Nat → Nat → Nat → Nat → Nat → Int32 → Int32 → Option (Int32 × gH)) (h : gH) (l2 : Int32) (l3 : Nat) (l4 : Nat) (l5 : Nat) (l6 : Nat) (l7 : Nat) (l8 : Int32) (l9 : Int32) (l10 : Nat) (l12 : Int32) (l15 : Nat) (s0 : Int32) : Option (Int32 × gH) :=
  (if s0 = 0 then
    f_L_law_b432 G xs N K4 K247 h l2 l3 l4 l5 l6 l7 l8 l9 l10 s0 l12 l15
  else
    bif g_is h l6 10 then
    (f_X10_adds G h l6 l12 (g_rem l9 10) l15).bind fun h429 =>
    f_L_law_b432 G xs N K4 K247 h429 l2 l3 l4 l5 l6 l7 l8 l9 l10 s0 l12 l15
    else none)
def f_L_law_b636 (G : gG) (xs : Nat → Int32) (N : Nat) (K4 : gH → Int32 → Int32 → Option (Int32 × gH)) (K247 : gH → Int32 → Int32 → Nat → Nat → Nat → Nat → Nat → Int32 → Int32 → Option (Int32 × gH)) (h : gH) (l2 : Int32) (l3 : Nat) (l4 : Nat) (l5 : Nat) (l6 : Nat) (l7 : Nat) (l8 : Int32) (l9 : Int32) (l10 : Nat) (l11 : Int32) (s0 : Int32) : Option (Int32 × gH) :=
  f_L_law_b1159 G xs N K4 K247 h s0 l2 l3 l4 l5 l6 l7 l8 l9 l10 l11
def f_L_law_b628 (G : gG) (xs : Nat → Int32) (N : Nat) (K4 : gH → Int32 → Int32 → Option (Int32 × gH)) (K247 : gH → Int32 → Int32 → Nat → Nat → Nat → Nat → Nat → Int32 → Int32 → Option (Int32 × gH)) (h : gH) (l2 : Int32) (l3 : Nat) (l4 : Nat) (l5 : Nat) (l6 : Nat) (l7 : Nat) (l8 : Int32) (l9 : Int32) (l10 : Nat) (l11 : Int32) (s0 : Int32) (s1 : Int32) : Option (Int32 × gH) :=
  (if s1 = s0 then
    f_L_law_b636 G xs N K4 K247 h l2 l3 l4 l5 l6 l7 l8 l9 l10 l11 1
  else
    f_L_law_b636 G xs N K4 K247 h l2 l3 l4 l5 l6 l7 l8 l9 l10 l11 0)
def f_L_law_b581 (G : gG) (xs : Nat → Int32) (N : Nat) (K4 : gH → Int32 → Int32 → Option (Int32 × gH)) (K247 : gH → Int32 → Int32 → Nat → Nat → Nat → Nat → Nat → Int32 → Int32 → Option (Int32 × gH)) (h : gH) (l2 : Int32) (l3 : Nat) (l4 : Nat) (l5 : Nat) (l6 : Nat) (l7 : Nat) (l8 : Int32) (l9 : Int32) (l10 : Nat) (l11 : Int32) (l16 : Int32) : Option (Int32 × gH) :=
  (g_gI h l6 10 6).bind fun v584 =>
  (g_gI h l6 10 6).bind fun v589 =>
  (f_L_fog G h l3 v584 (v589 + 9) l16).bind fun y597 =>
  (if l11 = 0 then
    (if 9 < l16 then
      f_L_law_b628 G xs N K4 K247 y597.2 l2 l3 l4 l5 l6 l7 l8 l9 l10 l11 (-2000000098) y597.1
    else
      f_L_law_b628 G xs N K4 K247 y597.2 l2 l3 l4 l5 l6 l7 l8 l9 l10 l11 (-2000000099) y597.1)
  else
    (g_gA y597.2 l6 10 3).bind fun v607 =>
    (g_aln y597.2 v607).bind fun v610 =>
    f_L_law_b628 G xs N K4 K247 y597.2 l2 l3 l4 l5 l6 l7 l8 l9 l10 l11 v610 y597.1)
def f_L_law_b534 (G : gG) (xs : Nat → Int32) (N : Nat) (K4 : gH → Int32 → Int32 → Option (Int32 × gH)) (K247 : gH → Int32 → Int32 → Nat → Nat → Nat → Nat → Nat → Int32 → Int32 → Option (Int32 × gH)) (h : gH) (l2 : Int32) (l3 : Nat) (l4 : Nat) (l5 : Nat) (l6 : Nat) (l7 : Nat) (l8 : Int32) (l9 : Int32) (l10 : Nat) (l16 : Int32) (s0 : Int32) : Option (Int32 × gH) :=
  (if s0 = 0 then
    f_L_law_b581 G xs N K4 K247 h l2 l3 l4 l5 l6 l7 l8 l9 l10 s0 l16
  else
    (g_gA h l6 10 3).bind fun v545 =>
    (g_nwI h 3 3).bind fun h549 =>
    (g_gI h549 l6 10 6).bind fun v555 =>
    (g_ast h549 h.1 0 v555).bind fun h558 =>
    (g_gI h558 l6 10 6).bind fun v563 =>
    (g_ast h558 h.1 1 (v563 + 9)).bind fun h569 =>
    (g_ast h569 h.1 2 l16).bind fun h574 =>
    (f_L_with G h574 v545 h.1).bind fun y575 =>
    (g_put y575.2 l6 10 3 (.ref y575.1)).bind fun h578 =>
    f_L_law_b581 G xs N K4 K247 h578 l2 l3 l4 l5 l6 l7 l8 l9 l10 s0 l16)
def f_L_law_b533 (G : gG) (xs : Nat → Int32) (N : Nat) (K4 : gH → Int32 → Int32 → Option (Int32 × gH)) (K247 : gH → Int32 → Int32 → Nat → Nat → Nat → Nat → Nat → Int32 → Int32 → Option (Int32 × gH)) (h : gH) (l2 : Int32) (l3 : Nat) (l4 : Nat) (l5 : Nat) (l6 : Nat) (l7 : Nat) (l8 : Int32) (l9 : Int32) (l10 : Nat) (l16 : Int32) : Option (Int32 × gH) :=
  f_L_law_b534 G xs N K4 K247 h l2 l3 l4 l5 l6 l7 l8 l9 l10 l16 0
def f_L_law_b726 (G : gG) (xs : Nat → Int32) (N : Nat) (K4 : gH → Int32 → Int32 → Option (Int32 × gH)) (K247 : gH → Int32 → Int32 → Nat → Nat → Nat → Nat → Nat → Int32 → Int32 → Option (Int32 × gH)) (K672 : gH → Int32 → Nat → Nat → Nat → Nat → Nat → Int32 → Int32 → Nat → Int32 → Int32 → Int32 → Int32 → Int32 → Int32 → Option (Int32 × gH)) (h : gH) (l2 : Int32) (l3 : Nat) (l4 : Nat) (l5 : Nat) (l6 : Nat) (l7 : Nat) (l8 : Int32) (l9 : Int32) (l10 : Nat) (l12 : Int32) (l17 : Int32) (l18 : Int32) (l19 : Int32) (l20 : Int32) (l21 : Int32) : Option (Int32 × gH) :=
  K672 h l2 l3 l4 l5 l6 l7 l8 l9 l10 l12 l17 l18 l19 l20 (l21 + 1)
def f_L_law_b882 (G : gG) (xs : Nat → Int32) (N : Nat) (K4 : gH → Int32 → Int32 → Option (Int32 × gH)) (K247 : gH → Int32 → Int32 → Nat → Nat → Nat → Nat → Nat → Int32 → Int32 → Option (Int32 × gH)) (h : gH) (l2 : Int32) (l3 : Nat) (l4 : Nat) (l5 : Nat) (l6 : Nat) (l7 : Nat) (l8 : Int32) (l9 : Int32) (l10 : Nat) (l11 : Int32) (s0 : Int32) : Option (Int32 × gH) :=
  f_L_law_b1159 G xs N K4 K247 h s0 l2 l3 l4 l5 l6 l7 l8 l9 l10 l11
def f_L_law_b874 (G : gG) (xs : Nat → Int32) (N : Nat) (K4 : gH → Int32 → Int32 → Option (Int32 × gH)) (K247 : gH → Int32 → Int32 → Nat → Nat → Nat → Nat → Nat → Int32 → Int32 → Option (Int32 × gH)) (h : gH) (l2 : Int32) (l3 : Nat) (l4 : Nat) (l5 : Nat) (l6 : Nat) (l7 : Nat) (l8 : Int32) (l9 : Int32) (l10 : Nat) (l11 : Int32) (s0 : Int32) (s1 : Int32) : Option (Int32 × gH) :=
  (if s1 = s0 then
    f_L_law_b882 G xs N K4 K247 h l2 l3 l4 l5 l6 l7 l8 l9 l10 l11 1
  else
    f_L_law_b882 G xs N K4 K247 h l2 l3 l4 l5 l6 l7 l8 l9 l10 l11 0)
def f_L_law_b842 (G : gG) (xs : Nat → Int32) (N : Nat) (K4 : gH → Int32 → Int32 → Option (Int32 × gH)) (K247 : gH → Int32 → Int32 → Nat → Nat → Nat → Nat → Nat → Int32 → Int32 → Option (Int32 × gH)) (h : gH) (l2 : Int32) (l3 : Nat) (l4 : Nat) (l5 : Nat) (l6 : Nat) (l7 : Nat) (l8 : Int32) (l9 : Int32) (l10 : Nat) (l11 : Int32) (l12 : Int32) (l17 : Int32) (l18 : Int32) : Option (Int32 × gH) :=
  (f_L_relieve G h l3 l12 l17).bind fun y847 =>
  (if l11 = 0 then
    (if 25 < l17 then
      f_L_law_b874 G xs N K4 K247 y847.2 l2 l3 l4 l5 l6 l7 l8 l9 l10 l11 (-2000000098) y847.1
    else
      f_L_law_b874 G xs N K4 K247 y847.2 l2 l3 l4 l5 l6 l7 l8 l9 l10 l11 (-2000000099) y847.1)
  else
    f_L_law_b874 G xs N K4 K247 y847.2 l2 l3 l4 l5 l6 l7 l8 l9 l10 l11 l18 y847.1)
def f_L_law_b805 (G : gG) (xs : Nat → Int32) (N : Nat) (K4 : gH → Int32 → Int32 → Option (Int32 × gH)) (K247 : gH → Int32 → Int32 → Nat → Nat → Nat → Nat → Nat → Int32 → Int32 → Option (Int32 × gH)) (K772 : gH → Int32 → Nat → Nat → Nat → Nat → Nat → Int32 → Int32 → Nat → Int32 → Int32 → Int32 → Int32 → Int32 → Nat → Int32 → Option (Int32 × gH)) (h : gH) (l2 : Int32) (l3 : Nat) (l4 : Nat) (l5 : Nat) (l6 : Nat) (l7 : Nat) (l8 : Int32) (l9 : Int32) (l10 : Nat) (l11 : Int32) (l12 : Int32) (l17 : Int32) (l18 : Int32) (l19 : Int32) (l21 : Nat) (l22 : Int32) : Option (Int32 × gH) :=
  K772 h l2 l3 l4 l5 l6 l7 l8 l9 l10 l11 l12 l17 l18 l19 l21 (l22 + 1)
def f_L_law_b772 (G : gG) (xs : Nat → Int32) (N : Nat) (K4 : gH → Int32 → Int32 → Option (Int32 × gH)) (K247 : gH → Int32 → Int32 → Nat → Nat → Nat → Nat → Nat → Int32 → Int32 → Option (Int32 × gH)) : Nat → gH → Int32 → Nat → Nat → Nat → Nat → Nat → Int32 → Int32 → Nat → Int32 → Int32 → Int32 → Int32 → Int32 → Nat → Int32 → Option (Int32 × gH)
  | 0, _, _, _, _, _, _, _, _, _, _, _, _, _, _, _, _, _ => none
  | n + 1, h, l2, l3, l4, l5, l6, l7, l8, l9, l10, l11, l12, l17, l18, l19, l21, l22 =>
    (g_gA h l6 10 2).bind fun v776 =>
    (g_aln h v776).bind fun v779 =>
    (if l22 < v779 then
      (if l22 = l19 then
        f_L_law_b805 G xs N K4 K247 (f_L_law_b772 G xs N K4 K247 n) h l2 l3 l4 l5 l6 l7 l8 l9 l10 l11 l12 l17 l18 l19 l21 l22
      else
        (g_gA h l6 10 2).bind fun v794 =>
        (g_qld h v794 3 l22).bind fun v799 =>
        v799.bind fun v799n =>
        (f_L_with G h l21 v799n).bind fun y800 =>
        f_L_law_b805 G xs N K4 K247 (f_L_law_b772 G xs N K4 K247 n) y800.2 l2 l3 l4 l5 l6 l7 l8 l9 l10 l11 l12 l17 l18 l19 y800.1 l22)
    else
      (g_nwI h 3 3).bind fun h816 =>
      (g_ast h816 h.1 0 l12).bind fun h822 =>
      (g_gI h822 l6 10 6).bind fun v827 =>
      (g_ast h822 h.1 1 v827).bind fun h830 =>
      (g_ast h830 h.1 2 l17).bind fun h835 =>
      (f_L_with G h835 l21 h.1).bind fun y836 =>
      (g_put y836.2 l6 10 2 (.ref y836.1)).bind fun h839 =>
      f_L_law_b842 G xs N K4 K247 h839 l2 l3 l4 l5 l6 l7 l8 l9 l10 l11 l12 l17 l18)
def f_L_law_b756 (G : gG) (xs : Nat → Int32) (N : Nat) (K4 : gH → Int32 → Int32 → Option (Int32 × gH)) (K247 : gH → Int32 → Int32 → Nat → Nat → Nat → Nat → Nat → Int32 → Int32 → Option (Int32 × gH)) (h : gH) (l2 : Int32) (l3 : Nat) (l4 : Nat) (l5 : Nat) (l6 : Nat) (l7 : Nat) (l8 : Int32) (l9 : Int32) (l10 : Nat) (l12 : Int32) (l17 : Int32) (l18 : Int32) (l19 : Int32) (s0 : Int32) : Option (Int32 × gH) :=
  (if s0 = 0 then
    f_L_law_b842 G xs N K4 K247 h l2 l3 l4 l5 l6 l7 l8 l9 l10 s0 l12 l17 l18
  else
    (g_nwQ h 3 0 0).bind fun h764 =>
    f_L_law_b772 G xs N K4 K247 20 h764 l2 l3 l4 l5 l6 l7 l8 l9 l10 s0 l12 l17 l18 l19 h.1 0)
def f_L_law_b751 (G : gG) (xs : Nat → Int32) (N : Nat) (K4 : gH → Int32 → Int32 → Option (Int32 × gH)) (K247 : gH → Int32 → Int32 → Nat → Nat → Nat → Nat → Nat → Int32 → Int32 → Option (Int32 × gH)) (h : gH) (l2 : Int32) (l3 : Nat) (l4 : Nat) (l5 : Nat) (l6 : Nat) (l7 : Nat) (l8 : Int32) (l9 : Int32) (l10 : Nat) (l12 : Int32) (l17 : Int32) (l18 : Int32) (l19 : Int32) : Option (Int32 × gH) :=
  f_L_law_b756 G xs N K4 K247 h l2 l3 l4 l5 l6 l7 l8 l9 l10 l12 l17 l18 l19 1
def f_L_law_b755 (G : gG) (xs : Nat → Int32) (N : Nat) (K4 : gH → Int32 → Int32 → Option (Int32 × gH)) (K247 : gH → Int32 → Int32 → Nat → Nat → Nat → Nat → Nat → Int32 → Int32 → Option (Int32 × gH)) (h : gH) (l2 : Int32) (l3 : Nat) (l4 : Nat) (l5 : Nat) (l6 : Nat) (l7 : Nat) (l8 : Int32) (l9 : Int32) (l10 : Nat) (l12 : Int32) (l17 : Int32) (l18 : Int32) (l19 : Int32) : Option (Int32 × gH) :=
  f_L_law_b756 G xs N K4 K247 h l2 l3 l4 l5 l6 l7 l8 l9 l10 l12 l17 l18 l19 0
def f_L_law_b672 (G : gG) (xs : Nat → Int32) (N : Nat) (K4 : gH → Int32 → Int32 → Option (Int32 × gH)) (K247 : gH → Int32 → Int32 → Nat → Nat → Nat → Nat → Nat → Int32 → Int32 → Option (Int32 × gH)) : Nat → gH → Int32 → Nat → Nat → Nat → Nat → Nat → Int32 → Int32 → Nat → Int32 → Int32 → Int32 → Int32 → Int32 → Int32 → Option (Int32 × gH)
  | 0, _, _, _, _, _, _, _, _, _, _, _, _, _, _, _, _ => none
  | n + 1, h, l2, l3, l4, l5, l6, l7, l8, l9, l10, l12, l17, l18, l19, l20, l21 =>
    (g_gA h l6 10 2).bind fun v676 =>
    (g_aln h v676).bind fun v679 =>
    (if l21 < v679 then
      (g_gA h l6 10 2).bind fun v685 =>
      (g_qld h v685 3 l21).bind fun v690 =>
      v690.bind fun v690n =>
      (g_ald h v690n 0).bind fun v692 =>
      (if v692 = l12 then
        (g_gA h l6 10 2).bind fun v706 =>
        (g_qld h v706 3 l21).bind fun v711 =>
        v711.bind fun v711n =>
        (g_ald h v711n 1).bind fun v713 =>
        (g_gI h l6 10 6).bind fun v716 =>
        (if v713 = v716 then
          f_L_law_b726 G xs N K4 K247 (f_L_law_b672 G xs N K4 K247 n) h l2 l3 l4 l5 l6 l7 l8 l9 l10 l12 l17 l18 l21 (l20 + 1) l21
        else
          f_L_law_b726 G xs N K4 K247 (f_L_law_b672 G xs N K4 K247 n) h l2 l3 l4 l5 l6 l7 l8 l9 l10 l12 l17 l18 l19 (l20 + 1) l21)
      else
        f_L_law_b726 G xs N K4 K247 (f_L_law_b672 G xs N K4 K247 n) h l2 l3 l4 l5 l6 l7 l8 l9 l10 l12 l17 l18 l19 l20 l21)
    else
      (if l17 < 26 then
        (if l19 < 0 then
          (if l20 < 8 then
            f_L_law_b751 G xs N K4 K247 h l2 l3 l4 l5 l6 l7 l8 l9 l10 l12 l17 l18 l19
          else
            f_L_law_b755 G xs N K4 K247 h l2 l3 l4 l5 l6 l7 l8 l9 l10 l12 l17 l18 l19)
        else
          f_L_law_b751 G xs N K4 K247 h l2 l3 l4 l5 l6 l7 l8 l9 l10 l12 l17 l18 l19)
      else
        f_L_law_b755 G xs N K4 K247 h l2 l3 l4 l5 l6 l7 l8 l9 l10 l12 l17 l18 l19))
def f_L_law_b968 (G : gG) (xs : Nat → Int32) (N : Nat) (K4 : gH → Int32 → Int32 → Option (Int32 × gH)) (K247 : gH → Int32 → Int32 → Nat → Nat → Nat → Nat → Nat → Int32 → Int32 → Option (Int32 × gH)) (h : gH) (l2 : Int32) (l3 : Nat) (l4 : Nat) (l5 : Nat) (l6 : Nat) (l7 : Nat) (l8 : Int32) (l9 : Int32) (l10 : Nat) (l11 : Int32) (s0 : Int32) : Option (Int32 × gH) :=
  f_L_law_b1159 G xs N K4 K247 h s0 l2 l3 l4 l5 l6 l7 l8 l9 l10 l11
def f_L_law_b960 (G : gG) (xs : Nat → Int32) (N : Nat) (K4 : gH → Int32 → Int32 → Option (Int32 × gH)) (K247 : gH → Int32 → Int32 → Nat → Nat → Nat → Nat → Nat → Int32 → Int32 → Option (Int32 × gH)) (h : gH) (l2 : Int32) (l3 : Nat) (l4 : Nat) (l5 : Nat) (l6 : Nat) (l7 : Nat) (l8 : Int32) (l9 : Int32) (l10 : Nat) (l11 : Int32) (s0 : Int32) (s1 : Int32) : Option (Int32 × gH) :=
  (if s1 = s0 then
    f_L_law_b968 G xs N K4 K247 h l2 l3 l4 l5 l6 l7 l8 l9 l10 l11 1
  else
    f_L_law_b968 G xs N K4 K247 h l2 l3 l4 l5 l6 l7 l8 l9 l10 l11 0)
def f_L_law_b940 (G : gG) (xs : Nat → Int32) (N : Nat) (K4 : gH → Int32 → Int32 → Option (Int32 × gH)) (K247 : gH → Int32 → Int32 → Nat → Nat → Nat → Nat → Nat → Int32 → Int32 → Option (Int32 × gH)) (h : gH) (l2 : Int32) (l3 : Nat) (l4 : Nat) (l5 : Nat) (l6 : Nat) (l7 : Nat) (l8 : Int32) (l9 : Int32) (l10 : Nat) (l11 : Int32) (l12 : Int32) (l21 : Int32) (l22 : Int32) : Option (Int32 × gH) :=
  (f_L_power G h l3 l12 l21).bind fun y945 =>
  (if l11 = 0 then
    f_L_law_b960 G xs N K4 K247 y945.2 l2 l3 l4 l5 l6 l7 l8 l9 l10 l11 (-2000000098) y945.1
  else
    f_L_law_b960 G xs N K4 K247 y945.2 l2 l3 l4 l5 l6 l7 l8 l9 l10 l11 l22 y945.1)
def f_L_law_b907 (G : gG) (xs : Nat → Int32) (N : Nat) (K4 : gH → Int32 → Int32 → Option (Int32 × gH)) (K247 : gH → Int32 → Int32 → Nat → Nat → Nat → Nat → Nat → Int32 → Int32 → Option (Int32 × gH)) (h : gH) (l2 : Int32) (l3 : Nat) (l4 : Nat) (l5 : Nat) (l6 : Nat) (l7 : Nat) (l8 : Int32) (l9 : Int32) (l10 : Nat) (l12 : Int32) (l21 : Int32) (s0 : Int32) : Option (Int32 × gH) :=
  (g_gA h l6 10 0).bind fun v911 =>
  (g_qld h v911 7 l12).bind fun v916 =>
  v916.bind fun v916n =>
  (g_gI h v916n 9 0).bind fun v917 =>
  (if s0 = 0 then
    f_L_law_b940 G xs N K4 K247 h l2 l3 l4 l5 l6 l7 l8 l9 l10 s0 l12 l21 v917
  else
    (g_gA h l6 10 0).bind fun v929 =>
    (g_qld h v929 7 l12).bind fun v934 =>
    v934.bind fun v934n =>
    (g_put h v934n 9 0 (.int l21)).bind fun h937 =>
    f_L_law_b940 G xs N K4 K247 h937 l2 l3 l4 l5 l6 l7 l8 l9 l10 s0 l12 l21 v917)
def f_L_law_b1081 (G : gG) (xs : Nat → Int32) (N : Nat) (K4 : gH → Int32 → Int32 → Option (Int32 × gH)) (K247 : gH → Int32 → Int32 → Nat → Nat → Nat → Nat → Nat → Int32 → Int32 → Option (Int32 × gH)) (h : gH) (l2 : Int32) (l3 : Nat) (l4 : Nat) (l5 : Nat) (l6 : Nat) (l7 : Nat) (l8 : Int32) (l9 : Int32) (l10 : Nat) (l11 : Int32) (s0 : Int32) : Option (Int32 × gH) :=
  f_L_law_b1159 G xs N K4 K247 h s0 l2 l3 l4 l5 l6 l7 l8 l9 l10 l11
def f_L_law_b1073 (G : gG) (xs : Nat → Int32) (N : Nat) (K4 : gH → Int32 → Int32 → Option (Int32 × gH)) (K247 : gH → Int32 → Int32 → Nat → Nat → Nat → Nat → Nat → Int32 → Int32 → Option (Int32 × gH)) (h : gH) (l2 : Int32) (l3 : Nat) (l4 : Nat) (l5 : Nat) (l6 : Nat) (l7 : Nat) (l8 : Int32) (l9 : Int32) (l10 : Nat) (l11 : Int32) (s0 : Int32) (s1 : Int32) : Option (Int32 × gH) :=
  (if s1 = s0 then
    f_L_law_b1081 G xs N K4 K247 h l2 l3 l4 l5 l6 l7 l8 l9 l10 l11 1
  else
    f_L_law_b1081 G xs N K4 K247 h l2 l3 l4 l5 l6 l7 l8 l9 l10 l11 0)
def f_L_law_b1030 (G : gG) (xs : Nat → Int32) (N : Nat) (K4 : gH → Int32 → Int32 → Option (Int32 × gH)) (K247 : gH → Int32 → Int32 → Nat → Nat → Nat → Nat → Nat → Int32 → Int32 → Option (Int32 × gH)) (h : gH) (l2 : Int32) (l3 : Nat) (l4 : Nat) (l5 : Nat) (l6 : Nat) (l7 : Nat) (l8 : Int32) (l9 : Int32) (l10 : Nat) (l23 : Int32) (l24 : Int32) (s0 : Int32) : Option (Int32 × gH) :=
  (f_L_cancel G h l3 l23).bind fun y1035 =>
  (if s0 = 0 then
    (if l24 = 0 then
      f_L_law_b1073 G xs N K4 K247 y1035.2 l2 l3 l4 l5 l6 l7 l8 l9 l10 s0 (-2000000097) y1035.1
    else
      f_L_law_b1073 G xs N K4 K247 y1035.2 l2 l3 l4 l5 l6 l7 l8 l9 l10 s0 (-2000000099) y1035.1)
  else
    bif g_is y1035.2 l6 10 then
    (f_X10_cancels G y1035.2 l6 l23).bind fun y1047 =>
    (if y1047.1 = 0 then
      f_L_law_b1073 G xs N K4 K247 y1047.2 l2 l3 l4 l5 l6 l7 l8 l9 l10 s0 0 y1035.1
    else
      f_L_law_b1073 G xs N K4 K247 y1047.2 l2 l3 l4 l5 l6 l7 l8 l9 l10 s0 1 y1035.1)
    else none)
def f_L_law_b1029 (G : gG) (xs : Nat → Int32) (N : Nat) (K4 : gH → Int32 → Int32 → Option (Int32 × gH)) (K247 : gH → Int32 → Int32 → Nat → Nat → Nat → Nat → Nat → Int32 → Int32 → Option (Int32 × gH)) (h : gH) (l2 : Int32) (l3 : Nat) (l4 : Nat) (l5 : Nat) (l6 : Nat) (l7 : Nat) (l8 : Int32) (l9 : Int32) (l10 : Nat) (l23 : Int32) (l24 : Int32) : Option (Int32 × gH) :=
  f_L_law_b1030 G xs N K4 K247 h l2 l3 l4 l5 l6 l7 l8 l9 l10 l23 l24 0
def f_L_law_b1003 (G : gG) (xs : Nat → Int32) (N : Nat) (K4 : gH → Int32 → Int32 → Option (Int32 × gH)) (K247 : gH → Int32 → Int32 → Nat → Nat → Nat → Nat → Nat → Int32 → Int32 → Option (Int32 × gH)) (h : gH) (l2 : Int32) (l3 : Nat) (l4 : Nat) (l5 : Nat) (l6 : Nat) (l7 : Nat) (l8 : Int32) (l9 : Int32) (l10 : Nat) (l23 : Int32) (s0 : Int32) : Option (Int32 × gH) :=
  (if s0 = 0 then
    f_L_law_b1029 G xs N K4 K247 h l2 l3 l4 l5 l6 l7 l8 l9 l10 l23 s0
  else
    (g_gA h l6 10 1).bind fun v1012 =>
    (g_qld h v1012 8 l23).bind fun v1017 =>
    v1017.bind fun v1017n =>
    (g_gI h v1017n 12 5).bind fun v1018 =>
    (if v1018 < 2 then
      f_L_law_b1030 G xs N K4 K247 h l2 l3 l4 l5 l6 l7 l8 l9 l10 l23 s0 1
    else
      f_L_law_b1029 G xs N K4 K247 h l2 l3 l4 l5 l6 l7 l8 l9 l10 l23 s0))
def f_L_law_b1158 (G : gG) (xs : Nat → Int32) (N : Nat) (K4 : gH → Int32 → Int32 → Option (Int32 × gH)) (K247 : gH → Int32 → Int32 → Nat → Nat → Nat → Nat → Nat → Int32 → Int32 → Option (Int32 × gH)) (h : gH) (l2 : Int32) (l3 : Nat) (l4 : Nat) (l5 : Nat) (l6 : Nat) (l7 : Nat) (l8 : Int32) (l9 : Int32) (l10 : Nat) (l11 : Int32) (s0 : Int32) : Option (Int32 × gH) :=
  f_L_law_b1159 G xs N K4 K247 h s0 l2 l3 l4 l5 l6 l7 l8 l9 l10 l11
def f_L_law_b1157 (G : gG) (xs : Nat → Int32) (N : Nat) (K4 : gH → Int32 → Int32 → Option (Int32 × gH)) (K247 : gH → Int32 → Int32 → Nat → Nat → Nat → Nat → Nat → Int32 → Int32 → Option (Int32 × gH)) (h : gH) (l2 : Int32) (l3 : Nat) (l4 : Nat) (l5 : Nat) (l6 : Nat) (l7 : Nat) (l8 : Int32) (l9 : Int32) (l10 : Nat) (l11 : Int32) : Option (Int32 × gH) :=
  f_L_law_b1158 G xs N K4 K247 h l2 l3 l4 l5 l6 l7 l8 l9 l10 l11 0
def f_L_law_b247 (G : gG) (xs : Nat → Int32) (N : Nat) (K4 : gH → Int32 → Int32 → Option (Int32 × gH)) : Nat → gH → Int32 → Int32 → Nat → Nat → Nat → Nat → Nat → Int32 → Int32 → Option (Int32 × gH)
  | 0, _, _, _, _, _, _, _, _, _, _ => none
  | n + 1, h, l1, l2, l3, l4, l5, l6, l7, l8, l9 =>
    (if l9 < 24 then
      (if l1 = 0 then
        f_L_law_b1225 G xs N K4 h l1 l2 l3 l7 l8
      else
        bif g_is h l6 10 then
        (f_X10_copy G h l6).bind fun y260 =>
        bif g_is y260.2 l5 11 then
        (f_X11_below G y260.2 l5 2).bind fun y271 =>
        bif g_is y271.2 l5 11 then
        (f_X11_below G y271.2 l5 9).bind fun y280 =>
        (if y280.1 = 0 then
          bif g_is y280.2 l5 11 then
          (f_X11_below G y280.2 l5 12).bind fun y333 =>
          f_L_law_b345 G xs N K4 (f_L_law_b247 G xs N K4 n) g_N y333.2 l2 l3 l4 l5 l6 l7 l8 l9 y260.1 1 (1 + y333.1) 0 0
          else none
        else
          (if y280.1 = 1 then
            bif g_is y280.2 l5 11 then
            (f_X11_below G y280.2 l5 12).bind fun y333 =>
            f_L_law_b345 G xs N K4 (f_L_law_b247 G xs N K4 n) g_N y333.2 l2 l3 l4 l5 l6 l7 l8 l9 y260.1 1 (1 + y333.1) 0 0
            else none
          else
            (if y280.1 = 2 then
              bif g_is y280.2 l5 11 then
              (f_X11_below G y280.2 l5 12).bind fun y333 =>
              f_L_law_b345 G xs N K4 (f_L_law_b247 G xs N K4 n) g_N y333.2 l2 l3 l4 l5 l6 l7 l8 l9 y260.1 1 (1 + y333.1) 0 0
              else none
            else
              (if y280.1 = 3 then
                (f_L_randomWord G y280.2 l5).bind fun y390 =>
                (g_gA y390.2 l6 10 1).bind fun v397 =>
                (g_aln y390.2 v397).bind fun v400 =>
                (if v400 < 8 then
                  f_L_law_b411 G xs N K4 (f_L_law_b247 G xs N K4 n) y390.2 l2 l3 l4 l5 l6 l7 l8 l9 y260.1 y271.1 y390.1 1
                else
                  f_L_law_b411 G xs N K4 (f_L_law_b247 G xs N K4 n) y390.2 l2 l3 l4 l5 l6 l7 l8 l9 y260.1 y271.1 y390.1 0)
              else
                (if y280.1 = 4 then
                  bif g_is y280.2 l5 11 then
                  (f_X11_below G y280.2 l5 11).bind fun y506 =>
                  (if y506.1 < 10 then
                    (g_gA y506.2 l6 10 3).bind fun v520 =>
                    (g_aln y506.2 v520).bind fun v523 =>
                    (if v523 < 12 then
                      f_L_law_b534 G xs N K4 (f_L_law_b247 G xs N K4 n) y506.2 l2 l3 l4 l5 l6 l7 l8 l9 y260.1 y506.1 1
                    else
                      f_L_law_b533 G xs N K4 (f_L_law_b247 G xs N K4 n) y506.2 l2 l3 l4 l5 l6 l7 l8 l9 y260.1 y506.1)
                  else
                    f_L_law_b533 G xs N K4 (f_L_law_b247 G xs N K4 n) y506.2 l2 l3 l4 l5 l6 l7 l8 l9 y260.1 y506.1)
                  else none
                else
                  (if y280.1 = 5 then
                    bif g_is y280.2 l5 11 then
                    (f_X11_below G y280.2 l5 27).bind fun y644 =>
                    (g_gI y644.2 l6 10 6).bind fun v655 =>
                    bif g_is y644.2 l6 10 then
                    (f_X10_key G y644.2 l6 y271.1 v655).bind fun v658 =>
                    f_L_law_b672 G xs N K4 (f_L_law_b247 G xs N K4 n) g_N y644.2 l2 l3 l4 l5 l6 l7 l8 l9 y260.1 y271.1 y644.1 v658 (-1) 0 0
                    else none
                    else none
                  else
                    (if y280.1 = 6 then
                      bif g_is y280.2 l5 11 then
                      (f_X11_below G y280.2 l5 11).bind fun y890 =>
                      (if y890.1 < 10 then
                        f_L_law_b907 G xs N K4 (f_L_law_b247 G xs N K4 n) y890.2 l2 l3 l4 l5 l6 l7 l8 l9 y260.1 y271.1 y890.1 1
                      else
                        f_L_law_b907 G xs N K4 (f_L_law_b247 G xs N K4 n) y890.2 l2 l3 l4 l5 l6 l7 l8 l9 y260.1 y271.1 y890.1 0)
                      else none
                    else
                      (if y280.1 = 7 then
                        (g_gA y280.2 l6 10 1).bind fun v976 =>
                        (g_aln y280.2 v976).bind fun v979 =>
                        bif g_is y280.2 l5 11 then
                        (f_X11_below G y280.2 l5 (v979 + 1)).bind fun y982 =>
                        (g_gA y982.2 l6 10 1).bind fun v991 =>
                        (g_aln y982.2 v991).bind fun v994 =>
                        (if y982.1 < v994 then
                          f_L_law_b1003 G xs N K4 (f_L_law_b247 G xs N K4 n) y982.2 l2 l3 l4 l5 l6 l7 l8 l9 y260.1 y982.1 1
                        else
                          f_L_law_b1003 G xs N K4 (f_L_law_b247 G xs N K4 n) y982.2 l2 l3 l4 l5 l6 l7 l8 l9 y260.1 y982.1 0)
                        else none
                      else
                        (g_gA y280.2 l6 10 1).bind fun v1091 =>
                        (g_aln y280.2 v1091).bind fun v1094 =>
                        (f_L_letter G y280.2 l3 v1094 0 0).bind fun y1097 =>
                        (if y1097.1 = (-2000000097) then
                          (g_gI y1097.2 l6 10 6).bind fun v1108 =>
                          (f_L_mist G y1097.2 l3 v1108).bind fun y1111 =>
                          (g_gI y1111.2 l6 10 6).bind fun v1118 =>
                          bif g_is y1111.2 l6 10 then
                          (f_X10_mist G y1111.2 l6 v1118).bind fun v1121 =>
                          (if y1111.1 = v1121 then
                            (g_gI y1111.2 l6 10 6).bind fun v1132 =>
                            (f_L_key G y1111.2 l3 y271.1 v1132).bind fun y1135 =>
                            (g_gI y1135.2 l6 10 6).bind fun v1144 =>
                            bif g_is y1135.2 l6 10 then
                            (f_X10_key G y1135.2 l6 y271.1 v1144).bind fun v1147 =>
                            (if y1135.1 = v1147 then
                              f_L_law_b1158 G xs N K4 (f_L_law_b247 G xs N K4 n) y1135.2 l2 l3 l4 l5 l6 l7 l8 l9 y260.1 0 1
                            else
                              f_L_law_b1157 G xs N K4 (f_L_law_b247 G xs N K4 n) y1135.2 l2 l3 l4 l5 l6 l7 l8 l9 y260.1 0)
                            else none
                          else
                            f_L_law_b1157 G xs N K4 (f_L_law_b247 G xs N K4 n) y1111.2 l2 l3 l4 l5 l6 l7 l8 l9 y260.1 0)
                          else none
                        else
                          f_L_law_b1157 G xs N K4 (f_L_law_b247 G xs N K4 n) y1097.2 l2 l3 l4 l5 l6 l7 l8 l9 y260.1 0)))))))))
        else none
        else none
        else none)
    else
      f_L_law_b1225 G xs N K4 h l1 l2 l3 l7 l8)
def f_L_law_b233 (G : gG) (xs : Nat → Int32) (N : Nat) (K4 : gH → Int32 → Int32 → Option (Int32 × gH)) (h : gH) (l2 : Int32) (l3 : Nat) (l4 : Nat) (l5 : Nat) (l6 : Nat) (s0 : Int32) : Option (Int32 × gH) :=
  (g_nwQ h 9 9 9).bind fun h236 =>
  f_L_law_b247 G xs N K4 26 h236 s0 l2 l3 l4 l5 l6 h.1 0 0
def f_L_law_b232 (G : gG) (xs : Nat → Int32) (N : Nat) (K4 : gH → Int32 → Int32 → Option (Int32 × gH)) (h : gH) (l2 : Int32) (l3 : Nat) (l4 : Nat) (l5 : Nat) (l6 : Nat) : Option (Int32 × gH) :=
  f_L_law_b233 G xs N K4 h l2 l3 l4 l5 l6 0
def f_L_law_b197 (G : gG) (xs : Nat → Int32) (N : Nat) (K4 : gH → Int32 → Int32 → Option (Int32 × gH)) (h : gH) (l2 : Int32) (l3 : Nat) (l4 : Nat) (l5 : Nat) (s0 : Int32) : Option (Int32 × gH) :=
  (f_L_randomLine G h l3 l4 l5).bind fun y203 =>
  (fun (q203 : Option Nat) (h203 : gH) =>
  (Option.elim q203
    (some (0, h203))
    (fun a210 =>
      (if s0 = 0 then
        f_L_law_b232 G xs N K4 h203 l2 l3 l4 l5 a210
      else
        (f_L_agrees G h203 l3 a210).bind fun y222 =>
        (if y222.1 = 0 then
          f_L_law_b232 G xs N K4 y222.2 l2 l3 l4 l5 a210
        else
          f_L_law_b233 G xs N K4 y222.2 l2 l3 l4 l5 a210 1))))) y203.1 y203.2
def f_L_law_b196 (G : gG) (xs : Nat → Int32) (N : Nat) (K4 : gH → Int32 → Int32 → Option (Int32 × gH)) (h : gH) (l2 : Int32) (l3 : Nat) (l4 : Nat) (l5 : Nat) : Option (Int32 × gH) :=
  f_L_law_b197 G xs N K4 h l2 l3 l4 l5 0
def f_L_law_b4 (G : gG) (xs : Nat → Int32) (N : Nat) : Nat → gH → Int32 → Int32 → Option (Int32 × gH)
  | 0, _, _, _ => none
  | n + 1, h, l1, l2 =>
    (if l2 < (Int32.ofNat N) then
      (if l2 < 2 then
        (if l1 = 0 then
          some (l1, h)
        else
          (g_mk h (.inr (7, g_dfl 7))).bind fun h19 =>
          (f_X7_init h19 h.1).bind fun h23 =>
          (g_nwI h23 8 8).bind fun h29 =>
          (g_mk h29 (.inr (11, g_dfl 11))).bind fun h33 =>
          ((g_ix l2 N).map xs).bind fun v39 =>
          (f_X11_init G h33 h29.1 v39).bind fun h40 =>
          (g_mk h40 (.inr (10, g_dfl 10))).bind fun h46 =>
          (f_X10_init G h46 h40.1).bind fun h50 =>
          (f_L_agrees G h50 h.1 h40.1).bind fun y53 =>
          (if y53.1 = 0 then
            f_L_law_b196 G xs N (f_L_law_b4 G xs N n) y53.2 l2 h.1 h23.1 h29.1
          else
            bif g_is y53.2 h.1 7 then
            (f_X7_errorOffset y53.2 h.1).bind fun v60 =>
            (if v60 = (-1) then
              bif g_is y53.2 h.1 7 then
              (f_X7_undo y53.2 h.1).bind fun y68 =>
              (if y68.1 = (-1) then
                (f_L_cancel G y68.2 h.1 0).bind fun y77 =>
                (if y77.1 = (-2000000097) then
                  (f_L_pass G y77.2 h.1 101).bind fun y88 =>
                  (if y88.1 = (-2000000098) then
                    (f_L_send G y88.2 h.1 2 0 1).bind fun y100 =>
                    (if y100.1 = (-2000000097) then
                      (f_L_send G y100.2 h.1 0 0 1).bind fun y112 =>
                      (if y112.1 = (-2000000098) then
                        (f_L_fog G y112.2 h.1 5 4 0).bind fun y124 =>
                        (if y124.1 = (-2000000098) then
                          (f_L_relieve G y124.2 h.1 0 26).bind fun y136 =>
                          (if y136.1 = (-2000000098) then
                            (f_L_relieve G y136.2 h.1 1 7).bind fun y148 =>
                            (if y148.1 = 0 then
                              (f_L_relieve G y148.2 h.1 1 9).bind fun y158 =>
                              (if y158.1 = 7 then
                                (f_L_key G y158.2 h.1 1 0).bind fun y169 =>
                                (if y169.1 = 9 then
                                  bif g_is y169.2 h.1 7 then
                                  (f_X7_undo y169.2 h.1).bind fun y178 =>
                                  (if y178.1 = 1 then
                                    bif g_is y178.2 h.1 7 then
                                    (f_X7_undo y178.2 h.1).bind fun y186 =>
                                    (if y186.1 = 0 then
                                      f_L_law_b197 G xs N (f_L_law_b4 G xs N n) y186.2 l2 h.1 h23.1 h29.1 1
                                    else
                                      f_L_law_b196 G xs N (f_L_law_b4 G xs N n) y186.2 l2 h.1 h23.1 h29.1)
                                    else none
                                  else
                                    f_L_law_b196 G xs N (f_L_law_b4 G xs N n) y178.2 l2 h.1 h23.1 h29.1)
                                  else none
                                else
                                  f_L_law_b196 G xs N (f_L_law_b4 G xs N n) y169.2 l2 h.1 h23.1 h29.1)
                              else
                                f_L_law_b196 G xs N (f_L_law_b4 G xs N n) y158.2 l2 h.1 h23.1 h29.1)
                            else
                              f_L_law_b196 G xs N (f_L_law_b4 G xs N n) y148.2 l2 h.1 h23.1 h29.1)
                          else
                            f_L_law_b196 G xs N (f_L_law_b4 G xs N n) y136.2 l2 h.1 h23.1 h29.1)
                        else
                          f_L_law_b196 G xs N (f_L_law_b4 G xs N n) y124.2 l2 h.1 h23.1 h29.1)
                      else
                        f_L_law_b196 G xs N (f_L_law_b4 G xs N n) y112.2 l2 h.1 h23.1 h29.1)
                    else
                      f_L_law_b196 G xs N (f_L_law_b4 G xs N n) y100.2 l2 h.1 h23.1 h29.1)
                  else
                    f_L_law_b196 G xs N (f_L_law_b4 G xs N n) y88.2 l2 h.1 h23.1 h29.1)
                else
                  f_L_law_b196 G xs N (f_L_law_b4 G xs N n) y77.2 l2 h.1 h23.1 h29.1)
              else
                f_L_law_b196 G xs N (f_L_law_b4 G xs N n) y68.2 l2 h.1 h23.1 h29.1)
              else none
            else
              f_L_law_b196 G xs N (f_L_law_b4 G xs N n) y53.2 l2 h.1 h23.1 h29.1)
            else none))
      else
        some (l1, h))
    else
      some (l1, h))
def f_L_law (G : gG) (xs : Nat → Int32) (N : Nat) (h : gH) : Option (Int32 × gH) :=
  f_L_law_b4 G xs N 3 h 1 0
