def f_L_law_b1364 (G : gG) (xs : Nat → Int32) (N : Nat) (K4 : gH → Int32 → Int32 → Option (Int32 × gH)) (K247 : gH → Int32 → Int32 → Nat → Nat → Nat → Nat → Nat → Int32 → Int32 → Option (Int32 × gH)) (K1228 : gH → Int32 → Int32 → Nat → Nat → Int32 → Int32 → Option (Int32 × gH)) (h : gH) (l2 : Int32) (s0 : Int32) : Option (Int32 × gH) :=
  K4 h s0 (l2 + 1)
def f_L_law_b1363 (G : gG) (xs : Nat → Int32) (N : Nat) (K4 : gH → Int32 → Int32 → Option (Int32 × gH)) (K247 : gH → Int32 → Int32 → Nat → Nat → Nat → Nat → Nat → Int32 → Int32 → Option (Int32 × gH)) (K1228 : gH → Int32 → Int32 → Nat → Nat → Int32 → Int32 → Option (Int32 × gH)) (h : gH) (l2 : Int32) : Option (Int32 × gH) :=
  f_L_law_b1364 G xs N K4 K247 K1228 h l2 0
def f_L_law_b1277 (G : gG) (xs : Nat → Int32) (N : Nat) (K4 : gH → Int32 → Int32 → Option (Int32 × gH)) (K247 : gH → Int32 → Int32 → Nat → Nat → Nat → Nat → Nat → Int32 → Int32 → Option (Int32 × gH)) (K1228 : gH → Int32 → Int32 → Nat → Nat → Int32 → Int32 → Option (Int32 × gH)) (h : gH) (l1 : Int32) (l2 : Int32) (l3 : Nat) : Option (Int32 × gH) :=
  (if l1 = 0 then
    f_L_law_b1363 G xs N K4 K247 K1228 h l2
  else
    (f_L_load G h l3 501).bind fun y1285 =>
    (if y1285.1 = (-2000000098) then
      (f_L_foretold G y1285.2 l3 3).bind fun y1295 =>
      (if y1295.1 = (-2000000098) then
        (f_L_leastPower G y1295.2 l3 2).bind fun y1305 =>
        (if y1305.1 = (-2000000097) then
          (f_L_mist G y1305.2 l3 20001).bind fun y1317 =>
          (if y1317.1 = (-2000000098) then
            (f_L_key G y1317.2 l3 2 0).bind fun y1328 =>
            (if y1328.1 = (-2000000097) then
              (f_L_channel G y1328.2 l3 0 6).bind fun y1340 =>
              (if y1340.1 = (-2000000098) then
                (f_L_why G y1340.2 l3 (-1) 0).bind fun y1351 =>
                (if y1351.1 = (-2000000097) then
                  f_L_law_b1364 G xs N K4 K247 K1228 y1351.2 l2 1
                else
                  f_L_law_b1363 G xs N K4 K247 K1228 y1351.2 l2)
              else
                f_L_law_b1363 G xs N K4 K247 K1228 y1340.2 l2)
            else
              f_L_law_b1363 G xs N K4 K247 K1228 y1328.2 l2)
          else
            f_L_law_b1363 G xs N K4 K247 K1228 y1317.2 l2)
        else
          f_L_law_b1363 G xs N K4 K247 K1228 y1305.2 l2)
      else
        f_L_law_b1363 G xs N K4 K247 K1228 y1295.2 l2)
    else
      f_L_law_b1363 G xs N K4 K247 K1228 y1285.2 l2))
def f_L_law_b1270 (G : gG) (xs : Nat → Int32) (N : Nat) (K4 : gH → Int32 → Int32 → Option (Int32 × gH)) (K247 : gH → Int32 → Int32 → Nat → Nat → Nat → Nat → Nat → Int32 → Int32 → Option (Int32 × gH)) (K1228 : gH → Int32 → Int32 → Nat → Nat → Int32 → Int32 → Option (Int32 × gH)) (h : gH) (l2 : Int32) (l3 : Nat) (l7 : Nat) (l8 : Int32) (l9 : Int32) (s0 : Int32) : Option (Int32 × gH) :=
  K1228 h s0 l2 l3 l7 l8 (l9 + 1)
def f_L_law_b1269 (G : gG) (xs : Nat → Int32) (N : Nat) (K4 : gH → Int32 → Int32 → Option (Int32 × gH)) (K247 : gH → Int32 → Int32 → Nat → Nat → Nat → Nat → Nat → Int32 → Int32 → Option (Int32 × gH)) (K1228 : gH → Int32 → Int32 → Nat → Nat → Int32 → Int32 → Option (Int32 × gH)) (h : gH) (l2 : Int32) (l3 : Nat) (l7 : Nat) (l8 : Int32) (l9 : Int32) : Option (Int32 × gH) :=
  f_L_law_b1270 G xs N K4 K247 K1228 h l2 l3 l7 l8 l9 0
def f_L_law_b1228 (G : gG) (xs : Nat → Int32) (N : Nat) (K4 : gH → Int32 → Int32 → Option (Int32 × gH)) (K247 : gH → Int32 → Int32 → Nat → Nat → Nat → Nat → Nat → Int32 → Int32 → Option (Int32 × gH)) : Nat → gH → Int32 → Int32 → Nat → Nat → Int32 → Int32 → Option (Int32 × gH)
  | 0, _, _, _, _, _, _, _ => none
  | n + 1, h, l1, l2, l3, l7, l8, l9 =>
    (if l9 < 8 then
      (if l9 < l8 then
        (if l1 = 0 then
          f_L_law_b1277 G xs N K4 K247 (f_L_law_b1228 G xs N K4 K247 n) h l1 l2 l3
        else
          bif g_is h l3 7 then
          (f_X7_undo h l3).bind fun y1247 =>
          (if 0 ≤ y1247.1 then
            (g_qld y1247.2 l7 9 l9).bind fun v1258 =>
            v1258.bind fun v1258n =>
            (f_L_agrees G y1247.2 l3 v1258n).bind fun y1259 =>
            (if y1259.1 = 0 then
              f_L_law_b1269 G xs N K4 K247 (f_L_law_b1228 G xs N K4 K247 n) y1259.2 l2 l3 l7 l8 l9
            else
              f_L_law_b1270 G xs N K4 K247 (f_L_law_b1228 G xs N K4 K247 n) y1259.2 l2 l3 l7 l8 l9 1)
          else
            f_L_law_b1269 G xs N K4 K247 (f_L_law_b1228 G xs N K4 K247 n) y1247.2 l2 l3 l7 l8 l9)
          else none)
      else
        f_L_law_b1277 G xs N K4 K247 (f_L_law_b1228 G xs N K4 K247 n) h l1 l2 l3)
    else
      f_L_law_b1277 G xs N K4 K247 (f_L_law_b1228 G xs N K4 K247 n) h l1 l2 l3)
def f_L_law_b1225 (G : gG) (xs : Nat → Int32) (N : Nat) (K4 : gH → Int32 → Int32 → Option (Int32 × gH)) (K247 : gH → Int32 → Int32 → Nat → Nat → Nat → Nat → Nat → Int32 → Int32 → Option (Int32 × gH)) (h : gH) (l1 : Int32) (l2 : Int32) (l3 : Nat) (l7 : Nat) (l8 : Int32) : Option (Int32 × gH) :=
  f_L_law_b1228 G xs N K4 K247 10 h l1 l2 l3 l7 l8 0
def f_L_law_b1218 (G : gG) (xs : Nat → Int32) (N : Nat) (K4 : gH → Int32 → Int32 → Option (Int32 × gH)) (K247 : gH → Int32 → Int32 → Nat → Nat → Nat → Nat → Nat → Int32 → Int32 → Option (Int32 × gH)) (K345 : gH → Int32 → Nat → Nat → Nat → Nat → Nat → Int32 → Int32 → Nat → Int32 → Int32 → Int32 → Int32 → Option (Int32 × gH)) (h : gH) (l2 : Int32) (l3 : Nat) (l4 : Nat) (l5 : Nat) (l6 : Nat) (l7 : Nat) (l8 : Int32) (l9 : Int32) (s0 : Int32) : Option (Int32 × gH) :=
  K247 h s0 l2 l3 l4 l5 l6 l7 l8 (l9 + 1)
def f_L_law_b1217 (G : gG) (xs : Nat → Int32) (N : Nat) (K4 : gH → Int32 → Int32 → Option (Int32 × gH)) (K247 : gH → Int32 → Int32 → Nat → Nat → Nat → Nat → Nat → Int32 → Int32 → Option (Int32 × gH)) (K345 : gH → Int32 → Nat → Nat → Nat → Nat → Nat → Int32 → Int32 → Nat → Int32 → Int32 → Int32 → Int32 → Option (Int32 × gH)) (h : gH) (l2 : Int32) (l3 : Nat) (l4 : Nat) (l5 : Nat) (l6 : Nat) (l7 : Nat) (l8 : Int32) (l9 : Int32) : Option (Int32 × gH) :=
  f_L_law_b1218 G xs N K4 K247 K345 h l2 l3 l4 l5 l6 l7 l8 l9 0
def f_L_law_b1200 (G : gG) (xs : Nat → Int32) (N : Nat) (K4 : gH → Int32 → Int32 → Option (Int32 × gH)) (K247 : gH → Int32 → Int32 → Nat → Nat → Nat → Nat → Nat → Int32 → Int32 → Option (Int32 × gH)) (K345 : gH → Int32 → Nat → Nat → Nat → Nat → Nat → Int32 → Int32 → Nat → Int32 → Int32 → Int32 → Int32 → Option (Int32 × gH)) (h : gH) (l1 : Int32) (l2 : Int32) (l3 : Nat) (l4 : Nat) (l5 : Nat) (l6 : Nat) (l7 : Nat) (l8 : Int32) (l9 : Int32) : Option (Int32 × gH) :=
  (if l1 = 0 then
    f_L_law_b1217 G xs N K4 K247 K345 h l2 l3 l4 l5 l6 l7 l8 l9
  else
    (f_L_agrees G h l3 l6).bind fun y1207 =>
    (if y1207.1 = 0 then
      f_L_law_b1217 G xs N K4 K247 K345 y1207.2 l2 l3 l4 l5 l6 l7 l8 l9
    else
      f_L_law_b1218 G xs N K4 K247 K345 y1207.2 l2 l3 l4 l5 l6 l7 l8 l9 1))
def f_L_law_b1168 (G : gG) (xs : Nat → Int32) (N : Nat) (K4 : gH → Int32 → Int32 → Option (Int32 × gH)) (K247 : gH → Int32 → Int32 → Nat → Nat → Nat → Nat → Nat → Int32 → Int32 → Option (Int32 × gH)) (K345 : gH → Int32 → Nat → Nat → Nat → Nat → Nat → Int32 → Int32 → Nat → Int32 → Int32 → Int32 → Int32 → Option (Int32 × gH)) : Nat → gH → Int32 → Int32 → Nat → Nat → Nat → Nat → Nat → Int32 → Int32 → Nat → Int32 → Option (Int32 × gH)
  | 0, _, _, _, _, _, _, _, _, _, _, _, _ => none
  | n + 1, h, l1, l2, l3, l4, l5, l6, l7, l8, l9, l10, l13 =>
    (if 0 < l13 then
      (g_qld h l7 9 (l13 - 1)).bind fun v1183 =>
      v1183.bind fun v1183n =>
      bif g_is h v1183n 10 then (g_qst h l7 9 l13 v1183n).bind fun h1184 =>
      f_L_law_b1168 G xs N K4 K247 K345 n h1184 l1 l2 l3 l4 l5 l6 l7 l8 l9 l10 (l13 + (-1))
      else none
    else
      bif g_is h l10 10 then (g_qst h l7 9 0 l10).bind fun h1196 =>
      f_L_law_b1200 G xs N K4 K247 K345 h1196 l1 l2 l3 l4 l5 l6 l7 (l8 + 1) l9
      else none)
def f_L_law_b1159 (G : gG) (xs : Nat → Int32) (N : Nat) (K4 : gH → Int32 → Int32 → Option (Int32 × gH)) (K247 : gH → Int32 → Int32 → Nat → Nat → Nat → Nat → Nat → Int32 → Int32 → Option (Int32 × gH)) (K345 : gH → Int32 → Nat → Nat → Nat → Nat → Nat → Int32 → Int32 → Nat → Int32 → Int32 → Int32 → Int32 → Option (Int32 × gH)) (h : gH) (l1 : Int32) (l2 : Int32) (l3 : Nat) (l4 : Nat) (l5 : Nat) (l6 : Nat) (l7 : Nat) (l8 : Int32) (l9 : Int32) (l10 : Nat) (l11 : Int32) : Option (Int32 × gH) :=
  (if l11 = 0 then
    f_L_law_b1200 G xs N K4 K247 K345 h l1 l2 l3 l4 l5 l6 l7 l8 l9
  else
    f_L_law_b1168 G xs N K4 K247 K345 g_N h l1 l2 l3 l4 l5 l6 l7 l8 l9 l10 8)
def f_L_law_b384 (G : gG) (xs : Nat → Int32) (N : Nat) (K4 : gH → Int32 → Int32 → Option (Int32 × gH)) (K247 : gH → Int32 → Int32 → Nat → Nat → Nat → Nat → Nat → Int32 → Int32 → Option (Int32 × gH)) (K345 : gH → Int32 → Nat → Nat → Nat → Nat → Nat → Int32 → Int32 → Nat → Int32 → Int32 → Int32 → Int32 → Option (Int32 × gH)) (h : gH) (l2 : Int32) (l3 : Nat) (l4 : Nat) (l5 : Nat) (l6 : Nat) (l7 : Nat) (l8 : Int32) (l9 : Int32) (l10 : Nat) (l11 : Int32) (s0 : Int32) : Option (Int32 × gH) :=
  f_L_law_b1159 G xs N K4 K247 K345 h s0 l2 l3 l4 l5 l6 l7 l8 l9 l10 l11
def f_L_law_b345 (G : gG) (xs : Nat → Int32) (N : Nat) (K4 : gH → Int32 → Int32 → Option (Int32 × gH)) (K247 : gH → Int32 → Int32 → Nat → Nat → Nat → Nat → Nat → Int32 → Int32 → Option (Int32 × gH)) : Nat → gH → Int32 → Nat → Nat → Nat → Nat → Nat → Int32 → Int32 → Nat → Int32 → Int32 → Int32 → Int32 → Option (Int32 × gH)
  | 0, _, _, _, _, _, _, _, _, _, _, _, _, _, _ => none
  | n + 1, h, l2, l3, l4, l5, l6, l7, l8, l9, l10, l11, l13, l14, l15 =>
    (if l15 < l13 then
      bif g_is h l6 10 then
      (f_X10_ticks G h l6).bind fun y356 =>
      f_L_law_b345 G xs N K4 K247 n y356.2 l2 l3 l4 l5 l6 l7 l8 l9 l10 l11 l13 (l14 + y356.1) (l15 + 1)
      else none
    else
      (f_L_pass G h l3 l13).bind fun y371 =>
      (if y371.1 = l14 then
        f_L_law_b384 G xs N K4 K247 (f_L_law_b345 G xs N K4 K247 n) y371.2 l2 l3 l4 l5 l6 l7 l8 l9 l10 l11 1
      else
        f_L_law_b384 G xs N K4 K247 (f_L_law_b345 G xs N K4 K247 n) y371.2 l2 l3 l4 l5 l6 l7 l8 l9 l10 l11 0))
def f_L_law_b498 (G : gG) (xs : Nat → Int32) (N : Nat) (K4 : gH → Int32 → Int32 → Option (Int32 × gH)) (K247 : gH → Int32 → Int32 → Nat → Nat → Nat → Nat → Nat → Int32 → Int32 → Option (Int32 × gH)) (h : gH) (l2 : Int32) (l3 : Nat) (l4 : Nat) (l5 : Nat) (l6 : Nat) (l7 : Nat) (l8 : Int32) (l9 : Int32) (l10 : Nat) (l11 : Int32) (s0 : Int32) : Option (Int32 × gH) :=
  f_L_law_b1159 G xs N K4 K247 K345 h s0 l2 l3 l4 l5 l6 l7 l8 l9 l10 l11
def f_L_law_b497 (G : gG) (xs : Nat → Int32) (N : Nat) (K4 : gH → Int32 → Int32 → Option (Int32 × gH)) (K247 : gH → Int32 → Int32 → Nat → Nat → Nat → Nat → Nat → Int32 → Int32 → Option (Int32 × gH)) (h : gH) (l2 : Int32) (l3 : Nat) (l4 : Nat) (l5 : Nat) (l6 : Nat) (l7 : Nat) (l8 : Int32) (l9 : Int32) (l10 : Nat) (l11 : Int32) : Option (Int32 × gH) :=
  f_L_law_b498 G xs N K4 K247 h l2 l3 l4 l5 l6 l7 l8 l9 l10 l11 0
def f_L_law_b473 (G : gG) (xs : Nat → Int32) (N : Nat) (K4 : gH → Int32 → Int32 → Option (Int32 × gH)) (K247 : gH → Int32 → Int32 → Nat → Nat → Nat → Nat → Nat → Int32 → Int32 → Option (Int32 × gH)) (h : gH) (l2 : Int32) (l3 : Nat) (l4 : Nat) (l5 : Nat) (l6 : Nat) (l7 : Nat) (l8 : Int32) (l9 : Int32) (l10 : Nat) (l11 : Int32) (s0 : Int32) : Option (Int32 × gH) :=
  (if l11 = 0 then
    (if s0 = 0 then
      f_L_law_b497 G xs N K4 K247 h l2 l3 l4 l5 l6 l7 l8 l9 l10 l11
    else
      (f_L_load G h l3 0).bind fun y485 =>
      (if y485.1 = (-2) then
        f_L_law_b498 G xs N K4 K247 y485.2 l2 l3 l4 l5 l6 l7 l8 l9 l10 l11 1
      else
        f_L_law_b497 G xs N K4 K247 y485.2 l2 l3 l4 l5 l6 l7 l8 l9 l10 l11))
  else
    f_L_law_b1159 G xs N K4 K247 K345 h s0 l2 l3 l4 l5 l6 l7 l8 l9 l10 l11)
def f_L_law_b465 (G : gG) (xs : Nat → Int32) (N : Nat) (K4 : gH → Int32 → Int32 → Option (Int32 × gH)) (K247 : gH → Int32 → Int32 → Nat → Nat → Nat → Nat → Nat → Int32 → Int32 → Option (Int32 × gH)) (h : gH) (l2 : Int32) (l3 : Nat) (l4 : Nat) (l5 : Nat) (l6 : Nat) (l7 : Nat) (l8 : Int32) (l9 : Int32) (l10 : Nat) (l11 : Int32) (s0 : Int32) (s1 : Int32) : Option (Int32 × gH) :=
  (if s1 = s0 then
    f_L_law_b473 G xs N K4 K247 h l2 l3 l4 l5 l6 l7 l8 l9 l10 l11 1
  else
    f_L_law_b473 G xs N K4 K247 h l2 l3 l4 l5 l6 l7 l8 l9 l10 l11 0)
def f_L_law_b432 (G : gG) (xs : Nat → Int32) (N : Nat) (K4 : gH → Int32 → Int32 → Option (Int32 × gH)) (K247 : gH → Int32 → Int32 → Nat → Nat → Nat → Nat → Nat → Int32 → Int32 → Option (Int32 × gH)) (h : gH) (l2 : Int32) (l3 : Nat) (l4 : Nat) (l5 : Nat) (l6 : Nat) (l7 : Nat) (l8 : Int32) (l9 : Int32) (l10 : Nat) (l11 : Int32) (l12 : Int32) (l15 : Nat) : Option (Int32 × gH) :=
  (f_L_sendText G h l3 l4 l15 l12 (g_rem l9 10)).bind fun y444 =>
  (if l11 = 0 then
    f_L_law_b465 G xs N K4 K247 y444.2 l2 l3 l4 l5 l6 l7 l8 l9 l10 l11 (-2000000099) y444.1
  else
    (g_gA y444.2 l6 10 1).bind fun v454 =>
    (g_aln y444.2 v454).bind fun v457 =>
    f_L_law_b465 G xs N K4 K247 y444.2 l2 l3 l4 l5 l6 l7 l8 l9 l10 l11 (v457 - 1) y444.1)
def f_L_law_b411 (G : gG) (xs : Nat → Int32) (N : Nat) (K4 : gH → Int32 → Int32 → Option (Int32 × gH)) (K247 : gH → Int32 → Int32 → Nat → Nat → Nat → Nat → Nat → Int32 → Int32 → Option (Int32 × gH)) (h : gH) (l2 : Int32) (l3 : Nat) (l4 : Nat) (l5 : Nat) (l6 : Nat) (l7 : Nat) (l8 : Int32) (l9 : Int32) (l10 : Nat) (l12 : Int32) (l15 : Nat) (s0 : Int32) : Option (Int32 × gH) :=
  (if s0 = 0 then
    f_L_law_b432 G xs N K4 K247 h l2 l3 l4 l5 l6 l7 l8 l9 l10 s0 l12 l15
  else
    bif g_is h l6 10 then
    (f_X10_adds G h l6 l12 (g_rem l9 10) l15).bind fun h429 =>
    f_L_law_b432 G xs N K4 K247 h429 l2 l3 l4 l5 l6 l7 l8 l9 l10 s0 l12 l15
    else none)
def f_L_law_b636 (G : gG) (xs : Nat → Int32) (N : Nat) (K4 : gH → Int32 → Int32 → Option (Int32 × gH)) (K247 : gH → Int32 → Int32 → Nat → Nat → Nat → Nat → Nat → Int32 → Int32 → Option (Int32 × gH)) (h : gH) (l2 : Int32) (l3 : Nat) (l4 : Nat) (l5 : Nat) (l6 : Nat) (l7 : Nat) (l8 : Int32) (l9 : Int32) (l10 : Nat) (l11 : Int32) (s0 : Int32) : Option (Int32 × gH) :=
  f_L_law_b1159 G xs N K4 K247 K345 h s0 l2 l3 l4 l5 l6 l7 l8 l9 l10 l11
def f_L_law_b628 (G : gG) (xs : Nat → Int32) (N : Nat) (K4 : gH → Int32 → Int32 → Option (Int32 × gH)) (K247 : gH → Int32 → Int32 → Nat → Nat → Nat → Nat → Nat → Int32 → Int32 → Option (Int32 × gH)) (h : gH) (l2 : Int32) (l3 : Nat) (l4 : Nat) (l5 : Nat) (l6 : Nat) (l7 : Nat) (l8 : Int32) (l9 : Int32) (l10 : Nat) (l11 : Int32) (s0 : Int32) (s1 : Int32) : Option (Int32 × gH) :=
  (if s1 = s0 then
    f_L_law_b636 G xs N K4 K247 h l2 l3 l4 l5 l6 l7 l8 l9 l10 l11 1
  else
    f_L_law_b636 G xs N K4 K247 h l2 l3 l4 l5 l6 l7 l8 l9 l10 l11 0)
def f_L_law_b581 (G : gG) (xs : Nat → Int32) (N : Nat) (K4 : gH → Int32 → Int32 → Option (Int32 × gH)) (K247 : gH → Int32 → Int32 → Nat → Nat → Nat → Nat → Nat → Int32 → Int32 → Option (Int32 × gH)) (h : gH) (l2 : Int32) (l3 : Nat) (l4 : Nat) (l5 : Nat) (l6 : Nat) (l7 : Nat) (l8 : Int32) (l9 : Int32) (l10 : Nat) (l11 : Int32) (l16 : Int32) : Option (Int32 × gH) :=
  (g_gI h l6 10 6).bind fun v584 =>
  (g_gI h l6 10 6).bind fun v589 =>
  (f_L_fog G h l3 v584 (v589 + 9) l16).bind fun y597 =>
  (if l11 = 0 then
    (if 9 < l16 then
      f_L_law_b628 G xs N K4 K247 y597.2 l2 l3 l4 l5 l6 l7 l8 l9 l10 l11 (-2000000098) y597.1
    else
      f_L_law_b628 G xs N K4 K247 y597.2 l2 l3 l4 l5 l6 l7 l8 l9 l10 l11 (-2000000099) y597.1)
  else
    (g_gA y597.2 l6 10 3).bind fun v607 =>
    (g_aln y597.2 v607).bind fun v610 =>
    f_L_law_b628 G xs N K4 K247 y597.2 l2 l3 l4 l5 l6 l7 l8 l9 l10 l11 v610 y597.1)
def f_L_law_b534 (G : gG) (xs : Nat → Int32) (N : Nat) (K4 : gH → Int32 → Int32 → Option (Int32 × gH)) (K247 : gH → Int32 → Int32 → Nat → Nat → Nat → Nat → Nat → Int32 → Int32 → Option (Int32 × gH)) (h : gH) (l2 : Int32) (l3 : Nat) (l4 : Nat) (l5 : Nat) (l6 : Nat) (l7 : Nat) (l8 : Int32) (l9 : Int32) (l10 : Nat) (l16 : Int32) (s0 : Int32) : Option (Int32 × gH) :=
  (if s0 = 0 then
    f_L_law_b581 G xs N K4 K247 h l2 l3 l4 l5 l6 l7 l8 l9 l10 s0 l16
  else
    (g_gA h l6 10 3).bind fun v545 =>
    (g_nwI h 3 3).bind fun h549 =>
    (g_gI h549 l6 10 6).bind fun v555 =>
    (g_ast h549 h.1 0 v555).bind fun h558 =>
    (g_gI h558 l6 10 6).bind fun v563 =>
    (g_ast h558 h.1 1 (v563 + 9)).bind fun h569 =>
    (g_ast h569 h.1 2 l16).bind fun h574 =>
    (f_L_with G h574 v545 h.1).bind fun y575 =>
    (g_put y575.2 l6 10 3 (.ref y575.1)).bind fun h578 =>
    f_L_law_b581 G xs N K4 K247 h578 l2 l3 l4 l5 l6 l7 l8 l9 l10 s0 l16)
def f_L_law_b533 (G : gG) (xs : Nat → Int32) (N : Nat) (K4 : gH → Int32 → Int32 → Option (Int32 × gH)) (K247 : gH → Int32 → Int32 → Nat → Nat → Nat → Nat → Nat → Int32 → Int32 → Option (Int32 × gH)) (h : gH) (l2 : Int32) (l3 : Nat) (l4 : Nat) (l5 : Nat) (l6 : Nat) (l7 : Nat) (l8 : Int32) (l9 : Int32) (l10 : Nat) (l16 : Int32) : Option (Int32 × gH) :=
  f_L_law_b534 G xs N K4 K247 h l2 l3 l4 l5 l6 l7 l8 l9 l10 l16 0
def f_L_law_b726 (G : gG) (xs : Nat → Int32) (N : Nat) (K4 : gH → Int32 → Int32 → Option (Int32 × gH)) (K247 : gH → Int32 → Int32 → Nat → Nat → Nat → Nat → Nat → Int32 → Int32 → Option (Int32 × gH)) (K672 : gH → Int32 → Nat → Nat → Nat → Nat → Nat → Int32 → Int32 → Nat → Int32 → Int32 → Int32 → Int32 → Int32 → Int32 → Option (Int32 × gH)) (h : gH) (l2 : Int32) (l3 : Nat) (l4 : Nat) (l5 : Nat) (l6 : Nat) (l7 : Nat) (l8 : Int32) (l9 : Int32) (l10 : Nat) (l12 : Int32) (l17 : Int32) (l18 : Int32) (l19 : Int32) (l20 : Int32) (l21 : Int32) : Option (Int32 × gH) :=
  K672 h l2 l3 l4 l5 l6 l7 l8 l9 l10 l12 l17 l18 l19 l20 (l21 + 1)
def f_L_law_b882 (G : gG) (xs : Nat → Int32) (N : Nat) (K4 : gH → Int32 → Int32 → Option (Int32 × gH)) (K247 : gH → Int32 → Int32 → Nat → Nat → Nat → Nat → Nat → Int32 → Int32 → Option (Int32 × gH)) (K672 : gH → Int32 → Nat → Nat → Nat → Nat → Nat → Int32 → Int32 → Nat → Int32 → Int32 → Int32 → Int32 → Int32 → Int32 → Option (Int32 × gH)) (h : gH) (l2 : Int32) (l3 : Nat) (l4 : Nat) (l5 : Nat) (l6 : Nat) (l7 : Nat) (l8 : Int32) (l9 : Int32) (l10 : Nat) (l11 : Int32) (s0 : Int32) : Option (Int32 × gH) :=
  f_L_law_b1159 G xs N K4 K247 K345 h s0 l2 l3 l4 l5 l6 l7 l8 l9 l10 l11
def f_L_law_b874 (G : gG) (xs : Nat → Int32) (N : Nat) (K4 : gH → Int32 → Int32 → Option (Int32 × gH)) (K247 : gH → Int32 → Int32 → Nat → Nat → Nat → Nat → Nat → Int32 → Int32 → Option (Int32 × gH)) (K672 : gH → Int32 → Nat → Nat → Nat → Nat → Nat → Int32 → Int32 → Nat → Int32 → Int32 → Int32 → Int32 → Int32 → Int32 → Option (Int32 × gH)) (h : gH) (l2 : Int32) (l3 : Nat) (l4 : Nat) (l5 : Nat) (l6 : Nat) (l7 : Nat) (l8 : Int32) (l9 : Int32) (l10 : Nat) (l11 : Int32) (s0 : Int32) (s1 : Int32) : Option (Int32 × gH) :=
  (if s1 = s0 then
    f_L_law_b882 G xs N K4 K247 K672 h l2 l3 l4 l5 l6 l7 l8 l9 l10 l11 1
  else
    f_L_law_b882 G xs N K4 K247 K672 h l2 l3 l4 l5 l6 l7 l8 l9 l10 l11 0)
def f_L_law_b842 (G : gG) (xs : Nat → Int32) (N : Nat) (K4 : gH → Int32 → Int32 → Option (Int32 × gH)) (K247 : gH → Int32 → Int32 → Nat → Nat → Nat → Nat → Nat → Int32 → Int32 → Option (Int32 × gH)) (K672 : gH → Int32 → Nat → Nat → Nat → Nat → Nat → Int32 → Int32 → Nat → Int32 → Int32 → Int32 → Int32 → Int32 → Int32 → Option (Int32 × gH)) (h : gH) (l2 : Int32) (l3 : Nat) (l4 : Nat) (l5 : Nat) (l6 : Nat) (l7 : Nat) (l8 : Int32) (l9 : Int32) (l10 : Nat) (l11 : Int32) (l12 : Int32) (l17 : Int32) (l18 : Int32) : Option (Int32 × gH) :=
  (f_L_relieve G h l3 l12 l17).bind fun y847 =>
  (if l11 = 0 then
    (if 25 < l17 then
      f_L_law_b874 G xs N K4 K247 K672 y847.2 l2 l3 l4 l5 l6 l7 l8 l9 l10 l11 (-2000000098) y847.1
    else
      f_L_law_b874 G xs N K4 K247 K672 y847.2 l2 l3 l4 l5 l6 l7 l8 l9 l10 l11 (-2000000099) y847.1)
  else
    f_L_law_b874 G xs N K4 K247 K672 y847.2 l2 l3 l4 l5 l6 l7 l8 l9 l10 l11 l18 y847.1)
def f_L_law_b805 (G : gG) (xs : Nat → Int32) (N : Nat) (K4 : gH → Int32 → Int32 → Option (Int32 × gH)) (K247 : gH → Int32 → Int32 → Nat → Nat → Nat → Nat → Nat → Int32 → Int32 → Option (Int32 × gH)) (K672 : gH → Int32 → Nat → Nat → Nat → Nat → Nat → Int32 → Int32 → Nat → Int32 → Int32 → Int32 → Int32 → Int32 → Int32 → Option (Int32 × gH)) (K772 : gH → Int32 → Nat → Nat → Nat → Nat → Nat → Int32 → Int32 → Nat → Int32 → Int32 → Int32 → Int32 → Int32 → Nat → Int32 → Option (Int32 × gH)) (h : gH) (l2 : Int32) (l3 : Nat) (l4 : Nat) (l5 : Nat) (l6 : Nat) (l7 : Nat) (l8 : Int32) (l9 : Int32) (l10 : Nat) (l11 : Int32) (l12 : Int32) (l17 : Int32) (l18 : Int32) (l19 : Int32) (l21 : Nat) (l22 : Int32) : Option (Int32 × gH) :=
  K772 h l2 l3 l4 l5 l6 l7 l8 l9 l10 l11 l12 l17 l18 l19 l21 (l22 + 1)
def f_L_law_b772 (G : gG) (xs : Nat → Int32) (N : Nat) (K4 : gH → Int32 → Int32 → Option (Int32 × gH)) (K247 : gH → Int32 → Int32 → Nat → Nat → Nat → Nat → Nat → Int32 → Int32 → Option (Int32 × gH)) (K672 : gH → Int32 → Nat → Nat → Nat → Nat → Nat → Int32 → Int32 → Nat → Int32 → Int32 → Int32 → Int32 → Int32 → Int32 → Option (Int32 × gH)) : Nat → gH → Int32 → Nat → Nat → Nat → Nat → Nat → Int32 → Int32 → Nat → Int32 → Int32 → Int32 → Int32 → Int32 → Nat → Int32 → Option (Int32 × gH)
  | 0, _, _, _, _, _, _, _, _, _, _, _, _, _, _, _, _, _ => none
  | n + 1, h, l2, l3, l4, l5, l6, l7, l8, l9, l10, l11, l12, l17, l18, l19, l21, l22 =>
    (g_gA h l6 10 2).bind fun v776 =>
    (g_aln h v776).bind fun v779 =>
    (if l22 < v779 then
      (if l22 = l19 then
        f_L_law_b805 G xs N K4 K247 K672 (f_L_law_b772 G xs N K4 K247 K672 n) h l2 l3 l4 l5 l6 l7 l8 l9 l10 l11 l12 l17 l18 l19 l21 l22
      else
        (g_gA h l6 10 2).bind fun v794 =>
        (g_qld h v794 3 l22).bind fun v799 =>
        v799.bind fun v799n =>
        (f_L_with G h l21 v799n).bind fun y800 =>
        f_L_law_b805 G xs N K4 K247 K672 (f_L_law_b772 G xs N K4 K247 K672 n) y800.2 l2 l3 l4 l5 l6 l7 l8 l9 l10 l11 l12 l17 l18 l19 y800.1 l22)
    else
      (g_nwI h 3 3).bind fun h816 =>
      (g_ast h816 h.1 0 l12).bind fun h822 =>
      (g_gI h822 l6 10 6).bind fun v827 =>
      (g_ast h822 h.1 1 v827).bind fun h830 =>
      (g_ast h830 h.1 2 l17).bind fun h835 =>
      (f_L_with G h835 l21 h.1).bind fun y836 =>
      (g_put y836.2 l6 10 2 (.ref y836.1)).bind fun h839 =>
      f_L_law_b842 G xs N K4 K247 K672 h839 l2 l3 l4 l5 l6 l7 l8 l9 l10 l11 l12 l17 l18)
def f_L_law_b756 (G : gG) (xs : Nat → Int32) (N : Nat) (K4 : gH → Int32 → Int32 → Option (Int32 × gH)) (K247 : gH → Int32 → Int32 → Nat → Nat → Nat → Nat → Nat → Int32 → Int32 → Option (Int32 × gH)) (K672 : gH → Int32 → Nat → Nat → Nat → Nat → Nat → Int32 → Int32 → Nat → Int32 → Int32 → Int32 → Int32 → Int32 → Int32 → Option (Int32 × gH)) (h : gH) (l2 : Int32) (l3 : Nat) (l4 : Nat) (l5 : Nat) (l6 : Nat) (l7 : Nat) (l8 : Int32) (l9 : Int32) (l10 : Nat) (l12 : Int32) (l17 : Int32) (l18 : Int32) (l19 : Int32) (s0 : Int32) : Option (Int32 × gH) :=
  (if s0 = 0 then
    f_L_law_b842 G xs N K4 K247 K672 h l2 l3 l4 l5 l6 l7 l8 l9 l10 s0 l12 l17 l18
  else
    (g_nwQ h 3 0 0).bind fun h764 =>
    f_L_law_b772 G xs N K4 K247 K672 20 h764 l2 l3 l4 l5 l6 l7 l8 l9 l10 s0 l12 l17 l18 l19 h.1 0)
def f_L_law_b751 (G : gG) (xs : Nat → Int32) (N : Nat) (K4 : gH → Int32 → Int32 → Option (Int32 × gH)) (K247 : gH → Int32 → Int32 → Nat → Nat → Nat → Nat → Nat → Int32 → Int32 → Option (Int32 × gH)) (K672 : gH → Int32 → Nat → Nat → Nat → Nat → Nat → Int32 → Int32 → Nat → Int32 → Int32 → Int32 → Int32 → Int32 → Int32 → Option (Int32 × gH)) (h : gH) (l2 : Int32) (l3 : Nat) (l4 : Nat) (l5 : Nat) (l6 : Nat) (l7 : Nat) (l8 : Int32) (l9 : Int32) (l10 : Nat) (l12 : Int32) (l17 : Int32) (l18 : Int32) (l19 : Int32) : Option (Int32 × gH) :=
  f_L_law_b756 G xs N K4 K247 K672 h l2 l3 l4 l5 l6 l7 l8 l9 l10 l12 l17 l18 l19 1
def f_L_law_b755 (G : gG) (xs : Nat → Int32) (N : Nat) (K4 : gH → Int32 → Int32 → Option (Int32 × gH)) (K247 : gH → Int32 → Int32 → Nat → Nat → Nat → Nat → Nat → Int32 → Int32 → Option (Int32 × gH)) (K672 : gH → Int32 → Nat → Nat → Nat → Nat → Nat → Int32 → Int32 → Nat → Int32 → Int32 → Int32 → Int32 → Int32 → Int32 → Option (Int32 × gH)) (h : gH) (l2 : Int32) (l3 : Nat) (l4 : Nat) (l5 : Nat) (l6 : Nat) (l7 : Nat) (l8 : Int32) (l9 : Int32) (l10 : Nat) (l12 : Int32) (l17 : Int32) (l18 : Int32) (l19 : Int32) : Option (Int32 × gH) :=
  f_L_law_b756 G xs N K4 K247 K672 h l2 l3 l4 l5 l6 l7 l8 l9 l10 l12 l17 l18 l19 0
def f_L_law_b672 (G : gG) (xs : Nat → Int32) (N : Nat) (K4 : gH → Int32 → Int32 → Option (Int32 × gH)) (K247 : gH → Int32 → Int32 → Nat → Nat → Nat → Nat → Nat → Int32 → Int32 → Option (Int32 × gH)) : Nat → gH → Int32 → Nat → Nat → Nat → Nat → Nat → Int32 → Int32 → Nat → Int32 → Int32 → Int32 → Int32 → Int32 → Int32 → Option (Int32 × gH)
  | 0, _, _, _, _, _, _, _, _, _, _, _, _, _, _, _, _ => none
  | n + 1, h, l2, l3, l4, l5, l6, l7, l8, l9, l10, l12, l17, l18, l19, l20, l21 =>
    (g_gA h l6 10 2).bind fun v676 =>
    (g_aln h v676).bind fun v679 =>
    (if l21 < v679 then
      (g_gA h l6 10 2).bind fun v685 =>
      (g_qld h v685 3 l21).bind fun v690 =>
      v690.bind fun v690n =>
      (g_ald h v690n 0).bind fun v692 =>
      (if v692 = l12 then
        (g_gA h l6 10 2).bind fun v706 =>
        (g_qld h v706 3 l21).bind fun v711 =>
        v711.bind fun v711n =>
        (g_ald h v711n 1).bind fun v713 =>
        (g_gI h l6 10 6).bind fun v716 =>
        (if v713 = v716 then
          f_L_law_b726 G xs N K4 K247 (f_L_law_b672 G xs N K4 K247 n) h l2 l3 l4 l5 l6 l7 l8 l9 l10 l12 l17 l18 l21 (l20 + 1) l21
        else
          f_L_law_b726 G xs N K4 K247 (f_L_law_b672 G xs N K4 K247 n) h l2 l3 l4 l5 l6 l7 l8 l9 l10 l12 l17 l18 l19 (l20 + 1) l21)
      else
        f_L_law_b726 G xs N K4 K247 (f_L_law_b672 G xs N K4 K247 n) h l2 l3 l4 l5 l6 l7 l8 l9 l10 l12 l17 l18 l19 l20 l21)
    else
      (if l17 < 26 then
        (if l19 < 0 then
          (if l20 < 8 then
            f_L_law_b751 G xs N K4 K247 (f_L_law_b672 G xs N K4 K247 n) h l2 l3 l4 l5 l6 l7 l8 l9 l10 l12 l17 l18 l19
          else
            f_L_law_b755 G xs N K4 K247 (f_L_law_b672 G xs N K4 K247 n) h l2 l3 l4 l5 l6 l7 l8 l9 l10 l12 l17 l18 l19)
        else
          f_L_law_b751 G xs N K4 K247 (f_L_law_b672 G xs N K4 K247 n) h l2 l3 l4 l5 l6 l7 l8 l9 l10 l12 l17 l18 l19)
      else
        f_L_law_b755 G xs N K4 K247 (f_L_law_b672 G xs N K4 K247 n) h l2 l3 l4 l5 l6 l7 l8 l9 l10 l12 l17 l18 l19))
def f_L_law_b968 (G : gG) (xs : Nat → Int32) (N : Nat) (K4 : gH → Int32 → Int32 → Option (Int32 × gH)) (K247 : gH → Int32 → Int32 → Nat → Nat → Nat → Nat → Nat → Int32 → Int32 → Option (Int32 × gH)) (h : gH) (l2 : Int32) (l3 : Nat) (l4 : Nat) (l5 : Nat) (l6 : Nat) (l7 : Nat) (l8 : Int32) (l9 : Int32) (l10 : Nat) (l11 : Int32) (s0 : Int32) : Option (Int32 × gH) :=
  f_L_law_b1159 G xs N K4 K247 K345 h s0 l2 l3 l4 l5 l6 l7 l8 l9 l10 l11
def f_L_law_b960 (G : gG) (xs : Nat → Int32) (N : Nat) (K4 : gH → Int32 → Int32 → Option (Int32 × gH)) (K247 : gH → Int32 → Int32 → Nat → Nat → Nat → Nat → Nat → Int32 → Int32 → Option (Int32 × gH)) (h : gH) (l2 : Int32) (l3 : Nat) (l4 : Nat) (l5 : Nat) (l6 : Nat) (l7 : Nat) (l8 : Int32) (l9 : Int32) (l10 : Nat) (l11 : Int32) (s0 : Int32) (s1 : Int32) : Option (Int32 × gH) :=
  (if s1 = s0 then
    f_L_law_b968 G xs N K4 K247 h l2 l3 l4 l5 l6 l7 l8 l9 l10 l11 1
  else
    f_L_law_b968 G xs N K4 K247 h l2 l3 l4 l5 l6 l7 l8 l9 l10 l11 0)
def f_L_law_b940 (G : gG) (xs : Nat → Int32) (N : Nat) (K4 : gH → Int32 → Int32 → Option (Int32 × gH)) (K247 : gH → Int32 → Int32 → Nat → Nat → Nat → Nat → Nat → Int32 → Int32 → Option (Int32 × gH)) (h : gH) (l2 : Int32) (l3 : Nat) (l4 : Nat) (l5 : Nat) (l6 : Nat) (l7 : Nat) (l8 : Int32) (l9 : Int32) (l10 : Nat) (l11 : Int32) (l12 : Int32) (l21 : Int32) (l22 : Int32) : Option (Int32 × gH) :=
  (f_L_power G h l3 l12 l21).bind fun y945 =>
  (if l11 = 0 then
    f_L_law_b960 G xs N K4 K247 y945.2 l2 l3 l4 l5 l6 l7 l8 l9 l10 l11 (-2000000098) y945.1
  else
    f_L_law_b960 G xs N K4 K247 y945.2 l2 l3 l4 l5 l6 l7 l8 l9 l10 l11 l22 y945.1)
def f_L_law_b907 (G : gG) (xs : Nat → Int32) (N : Nat) (K4 : gH → Int32 → Int32 → Option (Int32 × gH)) (K247 : gH → Int32 → Int32 → Nat → Nat → Nat → Nat → Nat → Int32 → Int32 → Option (Int32 × gH)) (h : gH) (l2 : Int32) (l3 : Nat) (l4 : Nat) (l5 : Nat) (l6 : Nat) (l7 : Nat) (l8 : Int32) (l9 : Int32) (l10 : Nat) (l12 : Int32) (l21 : Int32) (s0 : Int32) : Option (Int32 × gH) :=
  (g_gA h l6 10 0).bind fun v911 =>
  (g_qld h v911 7 l12).bind fun v916 =>
  v916.bind fun v916n =>
  (g_gI h v916n 9 0).bind fun v917 =>
  (if s0 = 0 then
    f_L_law_b940 G xs N K4 K247 h l2 l3 l4 l5 l6 l7 l8 l9 l10 s0 l12 l21 v917
  else
    (g_gA h l6 10 0).bind fun v929 =>
    (g_qld h v929 7 l12).bind fun v934 =>
    v934.bind fun v934n =>
    (g_put h v934n 9 0 (.int l21)).bind fun h937 =>
    f_L_law_b940 G xs N K4 K247 h937 l2 l3 l4 l5 l6 l7 l8 l9 l10 s0 l12 l21 v917)
def f_L_law_b1081 (G : gG) (xs : Nat → Int32) (N : Nat) (K4 : gH → Int32 → Int32 → Option (Int32 × gH)) (K247 : gH → Int32 → Int32 → Nat → Nat → Nat → Nat → Nat → Int32 → Int32 → Option (Int32 × gH)) (h : gH) (l2 : Int32) (l3 : Nat) (l4 : Nat) (l5 : Nat) (l6 : Nat) (l7 : Nat) (l8 : Int32) (l9 : Int32) (l10 : Nat) (l11 : Int32) (s0 : Int32) : Option (Int32 × gH) :=
  f_L_law_b1159 G xs N K4 K247 K345 h s0 l2 l3 l4 l5 l6 l7 l8 l9 l10 l11
def f_L_law_b1073 (G : gG) (xs : Nat → Int32) (N : Nat) (K4 : gH → Int32 → Int32 → Option (Int32 × gH)) (K247 : gH → Int32 → Int32 → Nat → Nat → Nat → Nat → Nat → Int32 → Int32 → Option (Int32 × gH)) (h : gH) (l2 : Int32) (l3 : Nat) (l4 : Nat) (l5 : Nat) (l6 : Nat) (l7 : Nat) (l8 : Int32) (l9 : Int32) (l10 : Nat) (l11 : Int32) (s0 : Int32) (s1 : Int32) : Option (Int32 × gH) :=
  (if s1 = s0 then
    f_L_law_b1081 G xs N K4 K247 h l2 l3 l4 l5 l6 l7 l8 l9 l10 l11 1
  else
    f_L_law_b1081 G xs N K4 K247 h l2 l3 l4 l5 l6 l7 l8 l9 l10 l11 0)
def f_L_law_b1030 (G : gG) (xs : Nat → Int32) (N : Nat) (K4 : gH → Int32 → Int32 → Option (Int32 × gH)) (K247 : gH → Int32 → Int32 → Nat → Nat → Nat → Nat → Nat → Int32 → Int32 → Option (Int32 × gH)) (h : gH) (l2 : Int32) (l3 : Nat) (l4 : Nat) (l5 : Nat) (l6 : Nat) (l7 : Nat) (l8 : Int32) (l9 : Int32) (l10 : Nat) (l23 : Int32) (l24 : Int32) (s0 : Int32) : Option (Int32 × gH) :=
  (f_L_cancel G h l3 l23).bind fun y1035 =>
  (if s0 = 0 then
    (if l24 = 0 then
      f_L_law_b1073 G xs N K4 K247 y1035.2 l2 l3 l4 l5 l6 l7 l8 l9 l10 s0 (-2000000097) y1035.1
    else
      f_L_law_b1073 G xs N K4 K247 y1035.2 l2 l3 l4 l5 l6 l7 l8 l9 l10 s0 (-2000000099) y1035.1)
  else
    bif g_is y1035.2 l6 10 then
    (f_X10_cancels G y1035.2 l6 l23).bind fun y1047 =>
    (if y1047.1 = 0 then
      f_L_law_b1073 G xs N K4 K247 y1047.2 l2 l3 l4 l5 l6 l7 l8 l9 l10 s0 0 y1035.1
    else
      f_L_law_b1073 G xs N K4 K247 y1047.2 l2 l3 l4 l5 l6 l7 l8 l9 l10 s0 1 y1035.1)
    else none)
def f_L_law_b1029 (G : gG) (xs : Nat → Int32) (N : Nat) (K4 : gH → Int32 → Int32 → Option (Int32 × gH)) (K247 : gH → Int32 → Int32 → Nat → Nat → Nat → Nat → Nat → Int32 → Int32 → Option (Int32 × gH)) (h : gH) (l2 : Int32) (l3 : Nat) (l4 : Nat) (l5 : Nat) (l6 : Nat) (l7 : Nat) (l8 : Int32) (l9 : Int32) (l10 : Nat) (l23 : Int32) (l24 : Int32) : Option (Int32 × gH) :=
  f_L_law_b1030 G xs N K4 K247 h l2 l3 l4 l5 l6 l7 l8 l9 l10 l23 l24 0
def f_L_law_b1003 (G : gG) (xs : Nat → Int32) (N : Nat) (K4 : gH → Int32 → Int32 → Option (Int32 × gH)) (K247 : gH → Int32 → Int32 → Nat → Nat → Nat → Nat → Nat → Int32 → Int32 → Option (Int32 × gH)) (h : gH) (l2 : Int32) (l3 : Nat) (l4 : Nat) (l5 : Nat) (l6 : Nat) (l7 : Nat) (l8 : Int32) (l9 : Int32) (l10 : Nat) (l23 : Int32) (s0 : Int32) : Option (Int32 × gH) :=
  (if s0 = 0 then
    f_L_law_b1029 G xs N K4 K247 h l2 l3 l4 l5 l6 l7 l8 l9 l10 l23 s0
  else
    (g_gA h l6 10 1).bind fun v1012 =>
    (g_qld h v1012 8 l23).bind fun v1017 =>
    v1017.bind fun v1017n =>
    (g_gI h v1017n 12 5).bind fun v1018 =>
    (if v1018 < 2 then
      f_L_law_b1030 G xs N K4 K247 h l2 l3 l4 l5 l6 l7 l8 l9 l10 l23 s0 1
    else
      f_L_law_b1029 G xs N K4 K247 h l2 l3 l4 l5 l6 l7 l8 l9 l10 l23 s0))
def f_L_law_b1158 (G : gG) (xs : Nat → Int32) (N : Nat) (K4 : gH → Int32 → Int32 → Option (Int32 × gH)) (K247 : gH → Int32 → Int32 → Nat → Nat → Nat → Nat → Nat → Int32 → Int32 → Option (Int32 × gH)) (h : gH) (l2 : Int32) (l3 : Nat) (l4 : Nat) (l5 : Nat) (l6 : Nat) (l7 : Nat) (l8 : Int32) (l9 : Int32) (l10 : Nat) (l11 : Int32) (s0 : Int32) : Option (Int32 × gH) :=
  f_L_law_b1159 G xs N K4 K247 K345 h s0 l2 l3 l4 l5 l6 l7 l8 l9 l10 l11
def f_L_law_b1157 (G : gG) (xs : Nat → Int32) (N : Nat) (K4 : gH → Int32 → Int32 → Option (Int32 × gH)) (K247 : gH → Int32 → Int32 → Nat → Nat → Nat → Nat → Nat → Int32 → Int32 → Option (Int32 × gH)) (h : gH) (l2 : Int32) (l3 : Nat) (l4 : Nat) (l5 : Nat) (l6 : Nat) (l7 : Nat) (l8 : Int32) (l9 : Int32) (l10 : Nat) (l11 : Int32) : Option (Int32 × gH) :=
  f_L_law_b1158 G xs N K4 K247 h l2 l3 l4 l5 l6 l7 l8 l9 l10 l11 0
def f_L_law_b247 (G : gG) (xs : Nat → Int32) (N : Nat) (K4 : gH → Int32 → Int32 → Option (Int32 × gH)) : Nat → gH → Int32 → Int32 → Nat → Nat → Nat → Nat → Nat → Int32 → Int32 → Option (Int32 × gH)
  | 0, _, _, _, _, _, _, _, _, _, _ => none
  | n + 1, h, l1, l2, l3, l4, l5, l6, l7, l8, l9 =>
    (if l9 < 24 then
      (if l1 = 0 then
        f_L_law_b1225 G xs N K4 (f_L_law_b247 G xs N K4 n) h l1 l2 l3 l7 l8
      else
        bif g_is h l6 10 then
        (f_X10_copy G h l6).bind fun y260 =>
        bif g_is y260.2 l5 11 then
        (f_X11_below G y260.2 l5 2).bind fun y271 =>
        bif g_is y271.2 l5 11 then
        (f_X11_below G y271.2 l5 9).bind fun y280 =>
        (if y280.1 = 0 then
          bif g_is y280.2 l5 11 then
          (f_X11_below G y280.2 l5 12).bind fun y333 =>
          f_L_law_b345 G xs N K4 (f_L_law_b247 G xs N K4 n) g_N y333.2 l2 l3 l4 l5 l6 l7 l8 l9 y260.1 1 (1 + y333.1) 0 0
          else none
        else
          (if y280.1 = 1 then
            bif g_is y280.2 l5 11 then
            (f_X11_below G y280.2 l5 12).bind fun y333 =>
            f_L_law_b345 G xs N K4 (f_L_law_b247 G xs N K4 n) g_N y333.2 l2 l3 l4 l5 l6 l7 l8 l9 y260.1 1 (1 + y333.1) 0 0
            else none
          else
            (if y280.1 = 2 then
              bif g_is y280.2 l5 11 then
              (f_X11_below G y280.2 l5 12).bind fun y333 =>
              f_L_law_b345 G xs N K4 (f_L_law_b247 G xs N K4 n) g_N y333.2 l2 l3 l4 l5 l6 l7 l8 l9 y260.1 1 (1 + y333.1) 0 0
              else none
            else
              (if y280.1 = 3 then
                (f_L_randomWord G y280.2 l5).bind fun y390 =>
                (g_gA y390.2 l6 10 1).bind fun v397 =>
                (g_aln y390.2 v397).bind fun v400 =>
                (if v400 < 8 then
                  f_L_law_b411 G xs N K4 (f_L_law_b247 G xs N K4 n) y390.2 l2 l3 l4 l5 l6 l7 l8 l9 y260.1 y271.1 y390.1 1
                else
                  f_L_law_b411 G xs N K4 (f_L_law_b247 G xs N K4 n) y390.2 l2 l3 l4 l5 l6 l7 l8 l9 y260.1 y271.1 y390.1 0)
              else
                (if y280.1 = 4 then
                  bif g_is y280.2 l5 11 then
                  (f_X11_below G y280.2 l5 11).bind fun y506 =>
                  (if y506.1 < 10 then
                    (g_gA y506.2 l6 10 3).bind fun v520 =>
                    (g_aln y506.2 v520).bind fun v523 =>
                    (if v523 < 12 then
                      f_L_law_b534 G xs N K4 (f_L_law_b247 G xs N K4 n) y506.2 l2 l3 l4 l5 l6 l7 l8 l9 y260.1 y506.1 1
                    else
                      f_L_law_b533 G xs N K4 (f_L_law_b247 G xs N K4 n) y506.2 l2 l3 l4 l5 l6 l7 l8 l9 y260.1 y506.1)
                  else
                    f_L_law_b533 G xs N K4 (f_L_law_b247 G xs N K4 n) y506.2 l2 l3 l4 l5 l6 l7 l8 l9 y260.1 y506.1)
                  else none
                else
                  (if y280.1 = 5 then
                    bif g_is y280.2 l5 11 then
                    (f_X11_below G y280.2 l5 27).bind fun y644 =>
                    (g_gI y644.2 l6 10 6).bind fun v655 =>
                    bif g_is y644.2 l6 10 then
                    (f_X10_key G y644.2 l6 y271.1 v655).bind fun v658 =>
                    f_L_law_b672 G xs N K4 (f_L_law_b247 G xs N K4 n) g_N y644.2 l2 l3 l4 l5 l6 l7 l8 l9 y260.1 y271.1 y644.1 v658 (-1) 0 0
                    else none
                    else none
                  else
                    (if y280.1 = 6 then
                      bif g_is y280.2 l5 11 then
                      (f_X11_below G y280.2 l5 11).bind fun y890 =>
                      (if y890.1 < 10 then
                        f_L_law_b907 G xs N K4 (f_L_law_b247 G xs N K4 n) y890.2 l2 l3 l4 l5 l6 l7 l8 l9 y260.1 y271.1 y890.1 1
                      else
                        f_L_law_b907 G xs N K4 (f_L_law_b247 G xs N K4 n) y890.2 l2 l3 l4 l5 l6 l7 l8 l9 y260.1 y271.1 y890.1 0)
                      else none
                    else
                      (if y280.1 = 7 then
                        (g_gA y280.2 l6 10 1).bind fun v976 =>
                        (g_aln y280.2 v976).bind fun v979 =>
                        bif g_is y280.2 l5 11 then
                        (f_X11_below G y280.2 l5 (v979 + 1)).bind fun y982 =>
                        (g_gA y982.2 l6 10 1).bind fun v991 =>
                        (g_aln y982.2 v991).bind fun v994 =>
                        (if y982.1 < v994 then
                          f_L_law_b1003 G xs N K4 (f_L_law_b247 G xs N K4 n) y982.2 l2 l3 l4 l5 l6 l7 l8 l9 y260.1 y982.1 1
                        else
                          f_L_law_b1003 G xs N K4 (f_L_law_b247 G xs N K4 n) y982.2 l2 l3 l4 l5 l6 l7 l8 l9 y260.1 y982.1 0)
                        else none
                      else
                        (g_gA y280.2 l6 10 1).bind fun v1091 =>
                        (g_aln y280.2 v1091).bind fun v1094 =>
                        (f_L_letter G y280.2 l3 v1094 0 0).bind fun y1097 =>
                        (if y1097.1 = (-2000000097) then
                          (g_gI y1097.2 l6 10 6).bind fun v1108 =>
                          (f_L_mist G y1097.2 l3 v1108).bind fun y1111 =>
                          (g_gI y1111.2 l6 10 6).bind fun v1118 =>
                          bif g_is y1111.2 l6 10 then
                          (f_X10_mist G y1111.2 l6 v1118).bind fun v1121 =>
                          (if y1111.1 = v1121 then
                            (g_gI y1111.2 l6 10 6).bind fun v1132 =>
                            (f_L_key G y1111.2 l3 y271.1 v1132).bind fun y1135 =>
                            (g_gI y1135.2 l6 10 6).bind fun v1144 =>
                            bif g_is y1135.2 l6 10 then
                            (f_X10_key G y1135.2 l6 y271.1 v1144).bind fun v1147 =>
                            (if y1135.1 = v1147 then
                              f_L_law_b1158 G xs N K4 (f_L_law_b247 G xs N K4 n) y1135.2 l2 l3 l4 l5 l6 l7 l8 l9 y260.1 0 1
                            else
                              f_L_law_b1157 G xs N K4 (f_L_law_b247 G xs N K4 n) y1135.2 l2 l3 l4 l5 l6 l7 l8 l9 y260.1 0)
                            else none
                          else
                            f_L_law_b1157 G xs N K4 (f_L_law_b247 G xs N K4 n) y1111.2 l2 l3 l4 l5 l6 l7 l8 l9 y260.1 0)
                          else none
                        else
                          f_L_law_b1157 G xs N K4 (f_L_law_b247 G xs N K4 n) y1097.2 l2 l3 l4 l5 l6 l7 l8 l9 y260.1 0)))))))))
        else none
        else none
        else none)
    else
      f_L_law_b1225 G xs N K4 (f_L_law_b247 G xs N K4 n) h l1 l2 l3 l7 l8)
def f_L_law_b233 (G : gG) (xs : Nat → Int32) (N : Nat) (K4 : gH → Int32 → Int32 → Option (Int32 × gH)) (h : gH) (l2 : Int32) (l3 : Nat) (l4 : Nat) (l5 : Nat) (l6 : Nat) (s0 : Int32) : Option (Int32 × gH) :=
  (g_nwQ h 9 9 9).bind fun h236 =>
  f_L_law_b247 G xs N K4 26 h236 s0 l2 l3 l4 l5 l6 h.1 0 0
def f_L_law_b232 (G : gG) (xs : Nat → Int32) (N : Nat) (K4 : gH → Int32 → Int32 → Option (Int32 × gH)) (h : gH) (l2 : Int32) (l3 : Nat) (l4 : Nat) (l5 : Nat) (l6 : Nat) : Option (Int32 × gH) :=
  f_L_law_b233 G xs N K4 h l2 l3 l4 l5 l6 0
def f_L_law_b197 (G : gG) (xs : Nat → Int32) (N : Nat) (K4 : gH → Int32 → Int32 → Option (Int32 × gH)) (h : gH) (l2 : Int32) (l3 : Nat) (l4 : Nat) (l5 : Nat) (s0 : Int32) : Option (Int32 × gH) :=
  (f_L_randomLine G h l3 l4 l5).bind fun y203 =>
  (fun (q203 : Option Nat) (h203 : gH) =>
  (Option.elim q203
    (some (0, h203))
    (fun a210 =>
      (if s0 = 0 then
        f_L_law_b232 G xs N K4 h203 l2 l3 l4 l5 a210
      else
        (f_L_agrees G h203 l3 a210).bind fun y222 =>
        (if y222.1 = 0 then
          f_L_law_b232 G xs N K4 y222.2 l2 l3 l4 l5 a210
        else
          f_L_law_b233 G xs N K4 y222.2 l2 l3 l4 l5 a210 1))))) y203.1 y203.2
def f_L_law_b196 (G : gG) (xs : Nat → Int32) (N : Nat) (K4 : gH → Int32 → Int32 → Option (Int32 × gH)) (h : gH) (l2 : Int32) (l3 : Nat) (l4 : Nat) (l5 : Nat) : Option (Int32 × gH) :=
  f_L_law_b197 G xs N K4 h l2 l3 l4 l5 0
def f_L_law_b4 (G : gG) (xs : Nat → Int32) (N : Nat) : Nat → gH → Int32 → Int32 → Option (Int32 × gH)
  | 0, _, _, _ => none
  | n + 1, h, l1, l2 =>
    (if l2 < (Int32.ofNat N) then
      (if l2 < 2 then
        (if l1 = 0 then
          some (l1, h)
        else
          (g_mk h (.inr (7, g_dfl 7))).bind fun h19 =>
          (f_X7_init h19 h.1).bind fun h23 =>
          (g_nwI h23 8 8).bind fun h29 =>
          (g_mk h29 (.inr (11, g_dfl 11))).bind fun h33 =>
          ((g_ix l2 N).map xs).bind fun v39 =>
          (f_X11_init G h33 h29.1 v39).bind fun h40 =>
          (g_mk h40 (.inr (10, g_dfl 10))).bind fun h46 =>
          (f_X10_init G h46 h40.1).bind fun h50 =>
          (f_L_agrees G h50 h.1 h40.1).bind fun y53 =>
          (if y53.1 = 0 then
            f_L_law_b196 G xs N (f_L_law_b4 G xs N n) y53.2 l2 h.1 h23.1 h29.1
          else
            bif g_is y53.2 h.1 7 then
            (f_X7_errorOffset y53.2 h.1).bind fun v60 =>
            (if v60 = (-1) then
              bif g_is y53.2 h.1 7 then
              (f_X7_undo y53.2 h.1).bind fun y68 =>
              (if y68.1 = (-1) then
                (f_L_cancel G y68.2 h.1 0).bind fun y77 =>
                (if y77.1 = (-2000000097) then
                  (f_L_pass G y77.2 h.1 101).bind fun y88 =>
                  (if y88.1 = (-2000000098) then
                    (f_L_send G y88.2 h.1 2 0 1).bind fun y100 =>
                    (if y100.1 = (-2000000097) then
                      (f_L_send G y100.2 h.1 0 0 1).bind fun y112 =>
                      (if y112.1 = (-2000000098) then
                        (f_L_fog G y112.2 h.1 5 4 0).bind fun y124 =>
                        (if y124.1 = (-2000000098) then
                          (f_L_relieve G y124.2 h.1 0 26).bind fun y136 =>
                          (if y136.1 = (-2000000098) then
                            (f_L_relieve G y136.2 h.1 1 7).bind fun y148 =>
                            (if y148.1 = 0 then
                              (f_L_relieve G y148.2 h.1 1 9).bind fun y158 =>
                              (if y158.1 = 7 then
                                (f_L_key G y158.2 h.1 1 0).bind fun y169 =>
                                (if y169.1 = 9 then
                                  bif g_is y169.2 h.1 7 then
                                  (f_X7_undo y169.2 h.1).bind fun y178 =>
                                  (if y178.1 = 1 then
                                    bif g_is y178.2 h.1 7 then
                                    (f_X7_undo y178.2 h.1).bind fun y186 =>
                                    (if y186.1 = 0 then
                                      f_L_law_b197 G xs N (f_L_law_b4 G xs N n) y186.2 l2 h.1 h23.1 h29.1 1
                                    else
                                      f_L_law_b196 G xs N (f_L_law_b4 G xs N n) y186.2 l2 h.1 h23.1 h29.1)
                                    else none
                                  else
                                    f_L_law_b196 G xs N (f_L_law_b4 G xs N n) y178.2 l2 h.1 h23.1 h29.1)
                                  else none
                                else
                                  f_L_law_b196 G xs N (f_L_law_b4 G xs N n) y169.2 l2 h.1 h23.1 h29.1)
                              else
                                f_L_law_b196 G xs N (f_L_law_b4 G xs N n) y158.2 l2 h.1 h23.1 h29.1)
                            else
                              f_L_law_b196 G xs N (f_L_law_b4 G xs N n) y148.2 l2 h.1 h23.1 h29.1)
                          else
                            f_L_law_b196 G xs N (f_L_law_b4 G xs N n) y136.2 l2 h.1 h23.1 h29.1)
                        else
                          f_L_law_b196 G xs N (f_L_law_b4 G xs N n) y124.2 l2 h.1 h23.1 h29.1)
                      else
                        f_L_law_b196 G xs N (f_L_law_b4 G xs N n) y112.2 l2 h.1 h23.1 h29.1)
                    else
                      f_L_law_b196 G xs N (f_L_law_b4 G xs N n) y100.2 l2 h.1 h23.1 h29.1)
                  else
                    f_L_law_b196 G xs N (f_L_law_b4 G xs N n) y88.2 l2 h.1 h23.1 h29.1)
                else
                  f_L_law_b196 G xs N (f_L_law_b4 G xs N n) y77.2 l2 h.1 h23.1 h29.1)
              else
                f_L_law_b196 G xs N (f_L_law_b4 G xs N n) y68.2 l2 h.1 h23.1 h29.1)
              else none
            else
              f_L_law_b196 G xs N (f_L_law_b4 G xs N n) y53.2 l2 h.1 h23.1 h29.1)
            else none))
      else
        some (l1, h))
    else
      some (l1, h))
def f_L_law (G : gG) (xs : Nat → Int32) (N : Nat) (h : gH) : Option (Int32 × gH) :=
  f_L_law_b4 G xs N 3 h 1 0
set_option maxRecDepth 100000 in
theorem b_L_law_b1364 {l : Launch} {G : gG} (hl : l.stackTraces = false) {Q : State → Array Value → List Frame → Prop} {Z : State → Prop} {b N : Nat} {xs : Nat → Int32} (hX : g_scr G Q b N xs) (hret : ∀ (pc : Nat) (L : List (Option Value)) (h : gH) (k n : Nat) (v : Int32), decode code pc = .ok (.ireturn, 1) → k ≤ 600086 → n ≤ 7301442 → GX l G M_L_law (g_phS Q Z) k n pc L [.int v] h (some (v, h))) {kb4 nb4 : Nat} {K4 : gH → Int32 → Int32 → Option (Int32 × gH)} {K247 : gH → Int32 → Int32 → Nat → Nat → Nat → Nat → Nat → Int32 → Int32 → Option (Int32 × gH)} {K1228 : gH → Int32 → Int32 → Nat → Nat → Int32 → Int32 → Option (Int32 × gH)} (hkb4 : kb4 + 9458 ≤ 28374) (hnb4 : nb4 + 56546 ≤ 169638) (hK4 : ∀ (h : gH) (l1 : Int32) (l2 : Int32), GX l G M_L_law (g_phS Q Z) (kb4 + 9458) (nb4 + 56546) 4 [some (.ref b), some (.int l1), some (.int l2), none, none, none, none, none, none, none, none, none, none, none, none, none, none, none, none, none, none, none, none, none, none] [] h (K4 h l1 l2)) (hK247 : ∀ (h : gH) (l1 : Int32) (l2 : Int32) (l3 : Nat) (l4 : Nat) (l5 : Nat) (l6 : Nat) (l7 : Nat) (l8 : Int32) (l9 : Int32), GX l G M_L_law (g_phS Q Z) (kb247 + 313) (nb247 + 1527) 247 [some (.ref b), some (.int l1), some (.int l2), some (.ref l3), some (.ref l4), some (.ref l5), some (.ref l6), some (.ref l7), some (.int l8), some (.int l9), none, none, none, none, none, none, none, none, none, none, none, none, none, none, none] [] h (K247 h l1 l2 l3 l4 l5 l6 l7 l8 l9)) (hK1228 : ∀ (h : gH) (l1 : Int32) (l2 : Int32) (l3 : Nat) (l7 : Nat) (l8 : Int32) (l9 : Int32), GX l G M_L_law (g_phS Q Z) (kb1228 + 19) (nb1228 + 114) 1228 [some (.ref b), some (.int l1), some (.int l2), some (.ref l3), none, none, none, some (.ref l7), some (.int l8), some (.int l9), none, none, none, none, none, none, none, none, none, none, none, none, none, none, none] [] h (K1228 h l1 l2 l3 l7 l8 l9)) (h : gH) (l2 : Int32) (s0 : Int32) : GX l G M_L_law (g_phS Q Z) (kb4 + 9458) (nb4 + 56546) 1364 [some (.ref b), none, some (.int l2), none, none, none, none, none, none, none, none, none, none, none, none, none, none, none, none, none, none, none, none, none, none] [.int s0] h (f_L_law_b1364 G xs N K4 K247 K1228 h l2 s0) := by
  unfold f_L_law_b1364
  refine X_istore_n rfl rfl rfl rfl ?_
  refine X_iinc (v := l2 + 1) rfl rfl rfl (congrArg (fun z => l2 + z) (by decide : Int32.ofInt 1 = 1)) rfl ?_
  refine X_goto rfl rfl ?_
  refine X_wid (k' := kb4 + 9458) (n' := nb4 + 56546) (by omega) (by omega) ?_
  exact X_sub (g_sub_s (g_sub_s (g_sub_s (g_sub_n (g_sub_n (g_sub_n (g_sub_n (g_sub_n (g_sub_n (g_sub_n (g_sub_n (g_sub_n (g_sub_n (g_sub_n (g_sub_n (g_sub_n (g_sub_n (g_sub_n (g_sub_n (g_sub_n (g_sub_n (g_sub_n (g_sub_n (g_sub_n (g_sub_n g_sub_0))))))))))))))))))))))))) (hK4 _ _ _)
set_option maxRecDepth 100000 in
theorem b_L_law_b1363 {l : Launch} {G : gG} (hl : l.stackTraces = false) {Q : State → Array Value → List Frame → Prop} {Z : State → Prop} {b N : Nat} {xs : Nat → Int32} (hX : g_scr G Q b N xs) (hret : ∀ (pc : Nat) (L : List (Option Value)) (h : gH) (k n : Nat) (v : Int32), decode code pc = .ok (.ireturn, 1) → k ≤ 600086 → n ≤ 7301442 → GX l G M_L_law (g_phS Q Z) k n pc L [.int v] h (some (v, h))) {kb4 nb4 : Nat} {K4 : gH → Int32 → Int32 → Option (Int32 × gH)} {K247 : gH → Int32 → Int32 → Nat → Nat → Nat → Nat → Nat → Int32 → Int32 → Option (Int32 × gH)} {K1228 : gH → Int32 → Int32 → Nat → Nat → Int32 → Int32 → Option (Int32 × gH)} (hkb4 : kb4 + 9458 ≤ 28374) (hnb4 : nb4 + 56546 ≤ 169638) (hK4 : ∀ (h : gH) (l1 : Int32) (l2 : Int32), GX l G M_L_law (g_phS Q Z) (kb4 + 9458) (nb4 + 56546) 4 [some (.ref b), some (.int l1), some (.int l2), none, none, none, none, none, none, none, none, none, none, none, none, none, none, none, none, none, none, none, none, none, none] [] h (K4 h l1 l2)) (hK247 : ∀ (h : gH) (l1 : Int32) (l2 : Int32) (l3 : Nat) (l4 : Nat) (l5 : Nat) (l6 : Nat) (l7 : Nat) (l8 : Int32) (l9 : Int32), GX l G M_L_law (g_phS Q Z) (kb247 + 313) (nb247 + 1527) 247 [some (.ref b), some (.int l1), some (.int l2), some (.ref l3), some (.ref l4), some (.ref l5), some (.ref l6), some (.ref l7), some (.int l8), some (.int l9), none, none, none, none, none, none, none, none, none, none, none, none, none, none, none] [] h (K247 h l1 l2 l3 l4 l5 l6 l7 l8 l9)) (hK1228 : ∀ (h : gH) (l1 : Int32) (l2 : Int32) (l3 : Nat) (l7 : Nat) (l8 : Int32) (l9 : Int32), GX l G M_L_law (g_phS Q Z) (kb1228 + 19) (nb1228 + 114) 1228 [some (.ref b), some (.int l1), some (.int l2), some (.ref l3), none, none, none, some (.ref l7), some (.int l8), some (.int l9), none, none, none, none, none, none, none, none, none, none, none, none, none, none, none] [] h (K1228 h l1 l2 l3 l7 l8 l9)) (h : gH) (l2 : Int32) : GX l G M_L_law (g_phS Q Z) (kb4 + 9458) (nb4 + 56546) 1363 [some (.ref b), none, some (.int l2), none, none, none, none, none, none, none, none, none, none, none, none, none, none, none, none, none, none, none, none, none, none] [] h (f_L_law_b1363 G xs N K4 K247 K1228 h l2) := by
  unfold f_L_law_b1363
  refine X_iconst (v := 0) rfl rfl (by decide) ?_
  exact X_sub (g_sub_s (g_sub_n (g_sub_s (g_sub_n (g_sub_n (g_sub_n (g_sub_n (g_sub_n (g_sub_n (g_sub_n (g_sub_n (g_sub_n (g_sub_n (g_sub_n (g_sub_n (g_sub_n (g_sub_n (g_sub_n (g_sub_n (g_sub_n (g_sub_n (g_sub_n (g_sub_n (g_sub_n (g_sub_n g_sub_0))))))))))))))))))))))))) (b_L_law_b1364 hl hX hret hkb4 hnb4 hK4 hK247 hK1228 _ _ _)
set_option maxRecDepth 100000 in
theorem b_L_law_b1277 {l : Launch} {G : gG} (hl : l.stackTraces = false) {Q : State → Array Value → List Frame → Prop} {Z : State → Prop} {b N : Nat} {xs : Nat → Int32} (hX : g_scr G Q b N xs) (hret : ∀ (pc : Nat) (L : List (Option Value)) (h : gH) (k n : Nat) (v : Int32), decode code pc = .ok (.ireturn, 1) → k ≤ 600086 → n ≤ 7301442 → GX l G M_L_law (g_phS Q Z) k n pc L [.int v] h (some (v, h))) {kb4 nb4 : Nat} {K4 : gH → Int32 → Int32 → Option (Int32 × gH)} {K247 : gH → Int32 → Int32 → Nat → Nat → Nat → Nat → Nat → Int32 → Int32 → Option (Int32 × gH)} {K1228 : gH → Int32 → Int32 → Nat → Nat → Int32 → Int32 → Option (Int32 × gH)} (hkb4 : kb4 + 9458 ≤ 28374) (hnb4 : nb4 + 56546 ≤ 169638) (hK4 : ∀ (h : gH) (l1 : Int32) (l2 : Int32), GX l G M_L_law (g_phS Q Z) (kb4 + 9458) (nb4 + 56546) 4 [some (.ref b), some (.int l1), some (.int l2), none, none, none, none, none, none, none, none, none, none, none, none, none, none, none, none, none, none, none, none, none, none] [] h (K4 h l1 l2)) (hK247 : ∀ (h : gH) (l1 : Int32) (l2 : Int32) (l3 : Nat) (l4 : Nat) (l5 : Nat) (l6 : Nat) (l7 : Nat) (l8 : Int32) (l9 : Int32), GX l G M_L_law (g_phS Q Z) (kb247 + 313) (nb247 + 1527) 247 [some (.ref b), some (.int l1), some (.int l2), some (.ref l3), some (.ref l4), some (.ref l5), some (.ref l6), some (.ref l7), some (.int l8), some (.int l9), none, none, none, none, none, none, none, none, none, none, none, none, none, none, none] [] h (K247 h l1 l2 l3 l4 l5 l6 l7 l8 l9)) (hK1228 : ∀ (h : gH) (l1 : Int32) (l2 : Int32) (l3 : Nat) (l7 : Nat) (l8 : Int32) (l9 : Int32), GX l G M_L_law (g_phS Q Z) (kb1228 + 19) (nb1228 + 114) 1228 [some (.ref b), some (.int l1), some (.int l2), some (.ref l3), none, none, none, some (.ref l7), some (.int l8), some (.int l9), none, none, none, none, none, none, none, none, none, none, none, none, none, none, none] [] h (K1228 h l1 l2 l3 l7 l8 l9)) (h : gH) (l1 : Int32) (l2 : Int32) (l3 : Nat) : GX l G M_L_law (g_phS Q Z) (kb4 + 9451) (nb4 + 56503) 1277 [some (.ref b), some (.int l1), some (.int l2), some (.ref l3), none, none, none, none, none, none, none, none, none, none, none, none, none, none, none, none, none, none, none, none, none] [] h (f_L_law_b1277 G xs N K4 K247 K1228 h l1 l2 l3) := by
  unfold f_L_law_b1277
  refine X_iload_n rfl rfl rfl ?_
  refine X_bif_eq rfl rfl (fun _ => ?_) (fun _ => ?_)
  · refine X_wid (k' := kb4 + 9458) (n' := nb4 + 56546) (by omega) (by omega) ?_
    exact X_sub (g_sub_s (g_sub_n (g_sub_s (g_sub_n (g_sub_n (g_sub_n (g_sub_n (g_sub_n (g_sub_n (g_sub_n (g_sub_n (g_sub_n (g_sub_n (g_sub_n (g_sub_n (g_sub_n (g_sub_n (g_sub_n (g_sub_n (g_sub_n (g_sub_n (g_sub_n (g_sub_n (g_sub_n (g_sub_n g_sub_0))))))))))))))))))))))))) (b_L_law_b1363 hl hX hret hkb4 hnb4 hK4 hK247 hK1228 _ _)
  · refine X_aload_n rfl rfl rfl ?_
    refine X_sipush (v := 501) rfl rfl (by decide) ?_
    refine X_kY_I (k1 := kb4 + 9452) (n1 := nb4 + 56510) (M' := M_L_load) (nA := 2) (As := [.ref l3, .int 501]) (st := []) rfl rfl (by decide +kernel) rfl rfl rfl (by show kb4 + 9451 + 1 = kb4 + 9452; omega) (by show nb4 + 56503 + 7 = nb4 + 56510; omega) (X_ble (by show kb4 + 9452 ≤ 600086; omega)) (X_ble (by show nb4 + 56510 ≤ 7301442; omega)) (fun _ _ e => cy_L_load hl  e) (fun y1285 => ?_)
    refine X_ldc (v := -2000000098) rfl rfl (by decide +kernel) ?_
    refine X_bicmp_ne rfl rfl (fun _ => ?_) (fun _ => ?_)
    · refine X_aload_n rfl rfl rfl ?_
      refine X_iconst (v := 3) rfl rfl (by decide) ?_
      refine X_kY_I (k1 := kb4 + 9453) (n1 := nb4 + 56516) (M' := M_L_foretold) (nA := 2) (As := [.ref l3, .int 3]) (st := []) rfl rfl (by decide +kernel) rfl rfl rfl (by show kb4 + 9452 + 1 = kb4 + 9453; omega) (by show nb4 + 56510 + 6 = nb4 + 56516; omega) (X_ble (by show kb4 + 9453 ≤ 600086; omega)) (X_ble (by show nb4 + 56516 ≤ 7301442; omega)) (fun _ _ e => cy_L_foretold hl  e) (fun y1295 => ?_)
      refine X_ldc (v := -2000000098) rfl rfl (by decide +kernel) ?_
      refine X_bicmp_ne rfl rfl (fun _ => ?_) (fun _ => ?_)
      · refine X_aload_n rfl rfl rfl ?_
        refine X_iconst (v := 2) rfl rfl (by decide) ?_
        refine X_kY_I (k1 := kb4 + 9454) (n1 := nb4 + 56522) (M' := M_L_leastPower) (nA := 2) (As := [.ref l3, .int 2]) (st := []) rfl rfl (by decide +kernel) rfl rfl rfl (by show kb4 + 9453 + 1 = kb4 + 9454; omega) (by show nb4 + 56516 + 6 = nb4 + 56522; omega) (X_ble (by show kb4 + 9454 ≤ 600086; omega)) (X_ble (by show nb4 + 56522 ≤ 7301442; omega)) (fun _ _ e => cy_L_leastPower hl  e) (fun y1305 => ?_)
        refine X_ldc (v := -2000000097) rfl rfl (by decide +kernel) ?_
        refine X_bicmp_ne rfl rfl (fun _ => ?_) (fun _ => ?_)
        · refine X_aload_n rfl rfl rfl ?_
          refine X_sipush (v := 20001) rfl rfl (by decide) ?_
          refine X_kY_I (k1 := kb4 + 9455) (n1 := nb4 + 56528) (M' := M_L_mist) (nA := 2) (As := [.ref l3, .int 20001]) (st := []) rfl rfl (by decide +kernel) rfl rfl rfl (by show kb4 + 9454 + 1 = kb4 + 9455; omega) (by show nb4 + 56522 + 6 = nb4 + 56528; omega) (X_ble (by show kb4 + 9455 ≤ 600086; omega)) (X_ble (by show nb4 + 56528 ≤ 7301442; omega)) (fun _ _ e => cy_L_mist hl  e) (fun y1317 => ?_)
          refine X_ldc (v := -2000000098) rfl rfl (by decide +kernel) ?_
          refine X_bicmp_ne rfl rfl (fun _ => ?_) (fun _ => ?_)
          · refine X_aload_n rfl rfl rfl ?_
            refine X_iconst (v := 2) rfl rfl (by decide) ?_
            refine X_iconst (v := 0) rfl rfl (by decide) ?_
            refine X_kY_I (k1 := kb4 + 9456) (n1 := nb4 + 56534) (M' := M_L_key) (nA := 3) (As := [.ref l3, .int 2, .int 0]) (st := []) rfl rfl (by decide +kernel) rfl rfl rfl (by show kb4 + 9455 + 1 = kb4 + 9456; omega) (by show nb4 + 56528 + 6 = nb4 + 56534; omega) (X_ble (by show kb4 + 9456 ≤ 600086; omega)) (X_ble (by show nb4 + 56534 ≤ 7301442; omega)) (fun _ _ e => cy_L_key hl  e) (fun y1328 => ?_)
            refine X_ldc (v := -2000000097) rfl rfl (by decide +kernel) ?_
            refine X_bicmp_ne rfl rfl (fun _ => ?_) (fun _ => ?_)
            · refine X_aload_n rfl rfl rfl ?_
              refine X_iconst (v := 0) rfl rfl (by decide) ?_
              refine X_bipush (v := 6) rfl rfl (by decide) ?_
              refine X_kY_I (k1 := kb4 + 9457) (n1 := nb4 + 56540) (M' := M_L_channel) (nA := 3) (As := [.ref l3, .int 0, .int 6]) (st := []) rfl rfl (by decide +kernel) rfl rfl rfl (by show kb4 + 9456 + 1 = kb4 + 9457; omega) (by show nb4 + 56534 + 6 = nb4 + 56540; omega) (X_ble (by show kb4 + 9457 ≤ 600086; omega)) (X_ble (by show nb4 + 56540 ≤ 7301442; omega)) (fun _ _ e => cy_L_channel hl  e) (fun y1340 => ?_)
              refine X_ldc (v := -2000000098) rfl rfl (by decide +kernel) ?_
              refine X_bicmp_ne rfl rfl (fun _ => ?_) (fun _ => ?_)
              · refine X_aload_n rfl rfl rfl ?_
                refine X_iconst (v := -1) rfl rfl (by decide) ?_
                refine X_iconst (v := 0) rfl rfl (by decide) ?_
                refine X_kY_I (k1 := kb4 + 9458) (n1 := nb4 + 56546) (M' := M_L_why) (nA := 3) (As := [.ref l3, .int (-1), .int 0]) (st := []) rfl rfl (by decide +kernel) rfl rfl rfl (by show kb4 + 9457 + 1 = kb4 + 9458; omega) (by show nb4 + 56540 + 6 = nb4 + 56546; omega) (X_ble (by show kb4 + 9458 ≤ 600086; omega)) (X_ble (by show nb4 + 56546 ≤ 7301442; omega)) (fun _ _ e => cy_L_why hl  e) (fun y1351 => ?_)
                refine X_ldc (v := -2000000097) rfl rfl (by decide +kernel) ?_
                refine X_bicmp_ne rfl rfl (fun _ => ?_) (fun _ => ?_)
                · refine X_iconst (v := 1) rfl rfl (by decide) ?_
                  refine X_goto rfl rfl ?_
                  exact X_sub (g_sub_s (g_sub_n (g_sub_s (g_sub_n (g_sub_n (g_sub_n (g_sub_n (g_sub_n (g_sub_n (g_sub_n (g_sub_n (g_sub_n (g_sub_n (g_sub_n (g_sub_n (g_sub_n (g_sub_n (g_sub_n (g_sub_n (g_sub_n (g_sub_n (g_sub_n (g_sub_n (g_sub_n (g_sub_n g_sub_0))))))))))))))))))))))))) (b_L_law_b1364 hl hX hret hkb4 hnb4 hK4 hK247 hK1228 _ _ _)
                · exact X_sub (g_sub_s (g_sub_n (g_sub_s (g_sub_n (g_sub_n (g_sub_n (g_sub_n (g_sub_n (g_sub_n (g_sub_n (g_sub_n (g_sub_n (g_sub_n (g_sub_n (g_sub_n (g_sub_n (g_sub_n (g_sub_n (g_sub_n (g_sub_n (g_sub_n (g_sub_n (g_sub_n (g_sub_n (g_sub_n g_sub_0))))))))))))))))))))))))) (b_L_law_b1363 hl hX hret hkb4 hnb4 hK4 hK247 hK1228 _ _)
              · refine X_wid (k' := kb4 + 9458) (n' := nb4 + 56546) (by omega) (by omega) ?_
                exact X_sub (g_sub_s (g_sub_n (g_sub_s (g_sub_n (g_sub_n (g_sub_n (g_sub_n (g_sub_n (g_sub_n (g_sub_n (g_sub_n (g_sub_n (g_sub_n (g_sub_n (g_sub_n (g_sub_n (g_sub_n (g_sub_n (g_sub_n (g_sub_n (g_sub_n (g_sub_n (g_sub_n (g_sub_n (g_sub_n g_sub_0))))))))))))))))))))))))) (b_L_law_b1363 hl hX hret hkb4 hnb4 hK4 hK247 hK1228 _ _)
            · refine X_wid (k' := kb4 + 9458) (n' := nb4 + 56546) (by omega) (by omega) ?_
              exact X_sub (g_sub_s (g_sub_n (g_sub_s (g_sub_n (g_sub_n (g_sub_n (g_sub_n (g_sub_n (g_sub_n (g_sub_n (g_sub_n (g_sub_n (g_sub_n (g_sub_n (g_sub_n (g_sub_n (g_sub_n (g_sub_n (g_sub_n (g_sub_n (g_sub_n (g_sub_n (g_sub_n (g_sub_n (g_sub_n g_sub_0))))))))))))))))))))))))) (b_L_law_b1363 hl hX hret hkb4 hnb4 hK4 hK247 hK1228 _ _)
          · refine X_wid (k' := kb4 + 9458) (n' := nb4 + 56546) (by omega) (by omega) ?_
            exact X_sub (g_sub_s (g_sub_n (g_sub_s (g_sub_n (g_sub_n (g_sub_n (g_sub_n (g_sub_n (g_sub_n (g_sub_n (g_sub_n (g_sub_n (g_sub_n (g_sub_n (g_sub_n (g_sub_n (g_sub_n (g_sub_n (g_sub_n (g_sub_n (g_sub_n (g_sub_n (g_sub_n (g_sub_n (g_sub_n g_sub_0))))))))))))))))))))))))) (b_L_law_b1363 hl hX hret hkb4 hnb4 hK4 hK247 hK1228 _ _)
        · refine X_wid (k' := kb4 + 9458) (n' := nb4 + 56546) (by omega) (by omega) ?_
          exact X_sub (g_sub_s (g_sub_n (g_sub_s (g_sub_n (g_sub_n (g_sub_n (g_sub_n (g_sub_n (g_sub_n (g_sub_n (g_sub_n (g_sub_n (g_sub_n (g_sub_n (g_sub_n (g_sub_n (g_sub_n (g_sub_n (g_sub_n (g_sub_n (g_sub_n (g_sub_n (g_sub_n (g_sub_n (g_sub_n g_sub_0))))))))))))))))))))))))) (b_L_law_b1363 hl hX hret hkb4 hnb4 hK4 hK247 hK1228 _ _)
      · refine X_wid (k' := kb4 + 9458) (n' := nb4 + 56546) (by omega) (by omega) ?_
        exact X_sub (g_sub_s (g_sub_n (g_sub_s (g_sub_n (g_sub_n (g_sub_n (g_sub_n (g_sub_n (g_sub_n (g_sub_n (g_sub_n (g_sub_n (g_sub_n (g_sub_n (g_sub_n (g_sub_n (g_sub_n (g_sub_n (g_sub_n (g_sub_n (g_sub_n (g_sub_n (g_sub_n (g_sub_n (g_sub_n g_sub_0))))))))))))))))))))))))) (b_L_law_b1363 hl hX hret hkb4 hnb4 hK4 hK247 hK1228 _ _)
    · refine X_wid (k' := kb4 + 9458) (n' := nb4 + 56546) (by omega) (by omega) ?_
      exact X_sub (g_sub_s (g_sub_n (g_sub_s (g_sub_n (g_sub_n (g_sub_n (g_sub_n (g_sub_n (g_sub_n (g_sub_n (g_sub_n (g_sub_n (g_sub_n (g_sub_n (g_sub_n (g_sub_n (g_sub_n (g_sub_n (g_sub_n (g_sub_n (g_sub_n (g_sub_n (g_sub_n (g_sub_n (g_sub_n g_sub_0))))))))))))))))))))))))) (b_L_law_b1363 hl hX hret hkb4 hnb4 hK4 hK247 hK1228 _ _)
set_option maxRecDepth 100000 in
theorem b_L_law_b1270 {l : Launch} {G : gG} (hl : l.stackTraces = false) {Q : State → Array Value → List Frame → Prop} {Z : State → Prop} {b N : Nat} {xs : Nat → Int32} (hX : g_scr G Q b N xs) (hret : ∀ (pc : Nat) (L : List (Option Value)) (h : gH) (k n : Nat) (v : Int32), decode code pc = .ok (.ireturn, 1) → k ≤ 600086 → n ≤ 7301442 → GX l G M_L_law (g_phS Q Z) k n pc L [.int v] h (some (v, h))) {kb4 nb4 : Nat} {kb1228 nb1228 : Nat} {K4 : gH → Int32 → Int32 → Option (Int32 × gH)} {K247 : gH → Int32 → Int32 → Nat → Nat → Nat → Nat → Nat → Int32 → Int32 → Option (Int32 × gH)} {K1228 : gH → Int32 → Int32 → Nat → Nat → Int32 → Int32 → Option (Int32 × gH)} (hkb4 : kb4 + 9458 ≤ 28374) (hnb4 : nb4 + 56546 ≤ 169638) (hkb1228 : kb1228 + 19 ≤ kb4 + 9451) (hnb1228 : nb1228 + 114 ≤ nb4 + 56503) (hK4 : ∀ (h : gH) (l1 : Int32) (l2 : Int32), GX l G M_L_law (g_phS Q Z) (kb4 + 9458) (nb4 + 56546) 4 [some (.ref b), some (.int l1), some (.int l2), none, none, none, none, none, none, none, none, none, none, none, none, none, none, none, none, none, none, none, none, none, none] [] h (K4 h l1 l2)) (hK247 : ∀ (h : gH) (l1 : Int32) (l2 : Int32) (l3 : Nat) (l4 : Nat) (l5 : Nat) (l6 : Nat) (l7 : Nat) (l8 : Int32) (l9 : Int32), GX l G M_L_law (g_phS Q Z) (kb247 + 313) (nb247 + 1527) 247 [some (.ref b), some (.int l1), some (.int l2), some (.ref l3), some (.ref l4), some (.ref l5), some (.ref l6), some (.ref l7), some (.int l8), some (.int l9), none, none, none, none, none, none, none, none, none, none, none, none, none, none, none] [] h (K247 h l1 l2 l3 l4 l5 l6 l7 l8 l9)) (hK1228 : ∀ (h : gH) (l1 : Int32) (l2 : Int32) (l3 : Nat) (l7 : Nat) (l8 : Int32) (l9 : Int32), GX l G M_L_law (g_phS Q Z) (kb1228 + 19) (nb1228 + 114) 1228 [some (.ref b), some (.int l1), some (.int l2), some (.ref l3), none, none, none, some (.ref l7), some (.int l8), some (.int l9), none, none, none, none, none, none, none, none, none, none, none, none, none, none, none] [] h (K1228 h l1 l2 l3 l7 l8 l9)) (h : gH) (l2 : Int32) (l3 : Nat) (l7 : Nat) (l8 : Int32) (l9 : Int32) (s0 : Int32) : GX l G M_L_law (g_phS Q Z) (kb1228 + 19) (nb1228 + 114) 1270 [some (.ref b), none, some (.int l2), some (.ref l3), none, none, none, some (.ref l7), some (.int l8), some (.int l9), none, none, none, none, none, none, none, none, none, none, none, none, none, none, none] [.int s0] h (f_L_law_b1270 G xs N K4 K247 K1228 h l2 l3 l7 l8 l9 s0) := by
  unfold f_L_law_b1270
  refine X_istore_n rfl rfl rfl rfl ?_
  refine X_iinc (v := l9 + 1) rfl rfl rfl (congrArg (fun z => l9 + z) (by decide : Int32.ofInt 1 = 1)) rfl ?_
  refine X_goto rfl rfl ?_
  refine X_wid (k' := kb1228 + 19) (n' := nb1228 + 114) (by omega) (by omega) ?_
  exact X_sub (g_sub_s (g_sub_s (g_sub_s (g_sub_s (g_sub_n (g_sub_n (g_sub_n (g_sub_s (g_sub_s (g_sub_s (g_sub_n (g_sub_n (g_sub_n (g_sub_n (g_sub_n (g_sub_n (g_sub_n (g_sub_n (g_sub_n (g_sub_n (g_sub_n (g_sub_n (g_sub_n (g_sub_n (g_sub_n g_sub_0))))))))))))))))))))))))) (hK1228 _ _ _ _ _ _ _)
set_option maxRecDepth 100000 in
theorem b_L_law_b1269 {l : Launch} {G : gG} (hl : l.stackTraces = false) {Q : State → Array Value → List Frame → Prop} {Z : State → Prop} {b N : Nat} {xs : Nat → Int32} (hX : g_scr G Q b N xs) (hret : ∀ (pc : Nat) (L : List (Option Value)) (h : gH) (k n : Nat) (v : Int32), decode code pc = .ok (.ireturn, 1) → k ≤ 600086 → n ≤ 7301442 → GX l G M_L_law (g_phS Q Z) k n pc L [.int v] h (some (v, h))) {kb4 nb4 : Nat} {kb1228 nb1228 : Nat} {K4 : gH → Int32 → Int32 → Option (Int32 × gH)} {K247 : gH → Int32 → Int32 → Nat → Nat → Nat → Nat → Nat → Int32 → Int32 → Option (Int32 × gH)} {K1228 : gH → Int32 → Int32 → Nat → Nat → Int32 → Int32 → Option (Int32 × gH)} (hkb4 : kb4 + 9458 ≤ 28374) (hnb4 : nb4 + 56546 ≤ 169638) (hkb1228 : kb1228 + 19 ≤ kb4 + 9451) (hnb1228 : nb1228 + 114 ≤ nb4 + 56503) (hK4 : ∀ (h : gH) (l1 : Int32) (l2 : Int32), GX l G M_L_law (g_phS Q Z) (kb4 + 9458) (nb4 + 56546) 4 [some (.ref b), some (.int l1), some (.int l2), none, none, none, none, none, none, none, none, none, none, none, none, none, none, none, none, none, none, none, none, none, none] [] h (K4 h l1 l2)) (hK247 : ∀ (h : gH) (l1 : Int32) (l2 : Int32) (l3 : Nat) (l4 : Nat) (l5 : Nat) (l6 : Nat) (l7 : Nat) (l8 : Int32) (l9 : Int32), GX l G M_L_law (g_phS Q Z) (kb247 + 313) (nb247 + 1527) 247 [some (.ref b), some (.int l1), some (.int l2), some (.ref l3), some (.ref l4), some (.ref l5), some (.ref l6), some (.ref l7), some (.int l8), some (.int l9), none, none, none, none, none, none, none, none, none, none, none, none, none, none, none] [] h (K247 h l1 l2 l3 l4 l5 l6 l7 l8 l9)) (hK1228 : ∀ (h : gH) (l1 : Int32) (l2 : Int32) (l3 : Nat) (l7 : Nat) (l8 : Int32) (l9 : Int32), GX l G M_L_law (g_phS Q Z) (kb1228 + 19) (nb1228 + 114) 1228 [some (.ref b), some (.int l1), some (.int l2), some (.ref l3), none, none, none, some (.ref l7), some (.int l8), some (.int l9), none, none, none, none, none, none, none, none, none, none, none, none, none, none, none] [] h (K1228 h l1 l2 l3 l7 l8 l9)) (h : gH) (l2 : Int32) (l3 : Nat) (l7 : Nat) (l8 : Int32) (l9 : Int32) : GX l G M_L_law (g_phS Q Z) (kb1228 + 19) (nb1228 + 114) 1269 [some (.ref b), none, some (.int l2), some (.ref l3), none, none, none, some (.ref l7), some (.int l8), some (.int l9), none, none, none, none, none, none, none, none, none, none, none, none, none, none, none] [] h (f_L_law_b1269 G xs N K4 K247 K1228 h l2 l3 l7 l8 l9) := by
  unfold f_L_law_b1269
  refine X_iconst (v := 0) rfl rfl (by decide) ?_
  exact X_sub (g_sub_s (g_sub_n (g_sub_s (g_sub_s (g_sub_n (g_sub_n (g_sub_n (g_sub_s (g_sub_s (g_sub_s (g_sub_n (g_sub_n (g_sub_n (g_sub_n (g_sub_n (g_sub_n (g_sub_n (g_sub_n (g_sub_n (g_sub_n (g_sub_n (g_sub_n (g_sub_n (g_sub_n (g_sub_n g_sub_0))))))))))))))))))))))))) (b_L_law_b1270 hl hX hret hkb4 hnb4 hkb1228 hnb1228 hK4 hK247 hK1228 _ _ _ _ _ _ _)
set_option maxRecDepth 100000 in
theorem b_L_law_b1228 {l : Launch} {G : gG} (hl : l.stackTraces = false) {Q : State → Array Value → List Frame → Prop} {Z : State → Prop} {b N : Nat} {xs : Nat → Int32} (hX : g_scr G Q b N xs) (hret : ∀ (pc : Nat) (L : List (Option Value)) (h : gH) (k n : Nat) (v : Int32), decode code pc = .ok (.ireturn, 1) → k ≤ 600086 → n ≤ 7301442 → GX l G M_L_law (g_phS Q Z) k n pc L [.int v] h (some (v, h))) {kb4 nb4 : Nat} {K4 : gH → Int32 → Int32 → Option (Int32 × gH)} {K247 : gH → Int32 → Int32 → Nat → Nat → Nat → Nat → Nat → Int32 → Int32 → Option (Int32 × gH)} (hkb4 : kb4 + 9458 ≤ 28374) (hnb4 : nb4 + 56546 ≤ 169638) (hK4 : ∀ (h : gH) (l1 : Int32) (l2 : Int32), GX l G M_L_law (g_phS Q Z) (kb4 + 9458) (nb4 + 56546) 4 [some (.ref b), some (.int l1), some (.int l2), none, none, none, none, none, none, none, none, none, none, none, none, none, none, none, none, none, none, none, none, none, none] [] h (K4 h l1 l2)) (hK247 : ∀ (h : gH) (l1 : Int32) (l2 : Int32) (l3 : Nat) (l4 : Nat) (l5 : Nat) (l6 : Nat) (l7 : Nat) (l8 : Int32) (l9 : Int32), GX l G M_L_law (g_phS Q Z) (kb247 + 313) (nb247 + 1527) 247 [some (.ref b), some (.int l1), some (.int l2), some (.ref l3), some (.ref l4), some (.ref l5), some (.ref l6), some (.ref l7), some (.int l8), some (.int l9), none, none, none, none, none, none, none, none, none, none, none, none, none, none, none] [] h (K247 h l1 l2 l3 l4 l5 l6 l7 l8 l9)) : ∀ (n kb1228 nb1228 : Nat), kb1228 + n * 19 ≤ kb4 + 9451 → nb1228 + n * 114 ≤ nb4 + 56503 → ∀ (h : gH) (l1 : Int32) (l2 : Int32) (l3 : Nat) (l7 : Nat) (l8 : Int32) (l9 : Int32), GX l G M_L_law (g_phS Q Z) kb1228 nb1228 1228 [some (.ref b), some (.int l1), some (.int l2), some (.ref l3), none, none, none, some (.ref l7), some (.int l8), some (.int l9), none, none, none, none, none, none, none, none, none, none, none, none, none, none, none] [] h (f_L_law_b1228 G xs N K4 K247 n h l1 l2 l3 l7 l8 l9) := by
  intro n
  induction n with
  | zero => intros; exact X_none
  | succ n ih =>
    intro kb1228 nb1228 hk0 hn0 h l1 l2 l3 l7 l8 l9
    have hkb1228 : kb1228 + 19 ≤ kb4 + 9451 := by omega
    have hnb1228 : nb1228 + 114 ≤ nb4 + 56503 := by omega
    rw [f_L_law_b1228]
    refine X_iload rfl rfl rfl ?_
    refine X_bipush (v := 8) rfl rfl (by decide) ?_
    refine X_bicmp_ge rfl rfl (fun _ => ?_) (fun _ => ?_)
    · refine X_iload rfl rfl rfl ?_
      refine X_iload rfl rfl rfl ?_
      refine X_bicmp_ge rfl rfl (fun _ => ?_) (fun _ => ?_)
      · refine X_iload_n rfl rfl rfl ?_
        refine X_bif_eq rfl rfl (fun _ => ?_) (fun _ => ?_)
        · refine X_wid (k' := kb4 + 9451) (n' := nb4 + 56503) (by omega) (by omega) ?_
          exact X_sub (g_sub_s (g_sub_s (g_sub_s (g_sub_s (g_sub_n (g_sub_n (g_sub_n (g_sub_n (g_sub_n (g_sub_n (g_sub_n (g_sub_n (g_sub_n (g_sub_n (g_sub_n (g_sub_n (g_sub_n (g_sub_n (g_sub_n (g_sub_n (g_sub_n (g_sub_n (g_sub_n (g_sub_n (g_sub_n g_sub_0))))))))))))))))))))))))) (b_L_law_b1277 hl hX hret hkb4 hnb4 hK4 hK247 (ih _ _ (by omega) (by omega)) _ _ _ _)
        · refine X_aload_n rfl rfl rfl ?_
          refine X_kV_I (k1 := kb1228) (n1 := nb1228) (M' := M_X7_undo) (nA := 0) (As := []) (st := []) (b := l3) (ci := 7) rfl rfl (by decide +kernel) rfl rfl rfl rfl (by show kb1228 + 0 = kb1228; omega) (by show nb1228 + 0 = nb1228; omega) (X_ble (by show kb1228 ≤ 600086; omega)) (X_ble (by show nb1228 ≤ 7301442; omega)) (fun _ _ e => ct_X7_undo  e) (fun y1247 => ?_)
          refine X_bif_lt rfl rfl (fun _ => ?_) (fun _ => ?_)
          · refine X_aload_n rfl rfl rfl ?_
            refine X_aload rfl rfl rfl ?_
            refine X_iload rfl rfl rfl ?_
            refine X_qld9 (t := 9) rfl rfl (by simp) (fun v1258 => ?_)
            refine X_nn (fun v1258n e1258 => ?_)
            subst e1258
            refine X_kS_I (k1 := kb1228 + 19) (n1 := nb1228 + 114) (M' := M_L_agrees) (nA := 2) (As := [.ref l3, .ref v1258n]) (st := []) rfl rfl (by decide +kernel) rfl rfl rfl (by show kb1228 + 19 = kb1228 + 19; omega) (by show nb1228 + 114 = nb1228 + 114; omega) (X_ble (by show kb1228 + 19 ≤ 600086; omega)) (X_ble (by show nb1228 + 114 ≤ 7301442; omega)) (fun _ _ e => ct_L_agrees hl  e) (fun y1259 => ?_)
            refine X_bif_eq rfl rfl (fun _ => ?_) (fun _ => ?_)
            · exact X_sub (g_sub_s (g_sub_n (g_sub_s (g_sub_s (g_sub_n (g_sub_n (g_sub_n (g_sub_s (g_sub_s (g_sub_s (g_sub_n (g_sub_n (g_sub_n (g_sub_n (g_sub_n (g_sub_n (g_sub_n (g_sub_n (g_sub_n (g_sub_n (g_sub_n (g_sub_n (g_sub_n (g_sub_n (g_sub_n g_sub_0))))))))))))))))))))))))) (b_L_law_b1269 hl hX hret hkb4 hnb4 hkb1228 hnb1228 hK4 hK247 (ih _ _ (by omega) (by omega)) _ _ _ _ _ _)
            · refine X_iconst (v := 1) rfl rfl (by decide) ?_
              refine X_goto rfl rfl ?_
              exact X_sub (g_sub_s (g_sub_n (g_sub_s (g_sub_s (g_sub_n (g_sub_n (g_sub_n (g_sub_s (g_sub_s (g_sub_s (g_sub_n (g_sub_n (g_sub_n (g_sub_n (g_sub_n (g_sub_n (g_sub_n (g_sub_n (g_sub_n (g_sub_n (g_sub_n (g_sub_n (g_sub_n (g_sub_n (g_sub_n g_sub_0))))))))))))))))))))))))) (b_L_law_b1270 hl hX hret hkb4 hnb4 hkb1228 hnb1228 hK4 hK247 (ih _ _ (by omega) (by omega)) _ _ _ _ _ _ _)
          · refine X_wid (k' := kb1228 + 19) (n' := nb1228 + 114) (by omega) (by omega) ?_
            exact X_sub (g_sub_s (g_sub_n (g_sub_s (g_sub_s (g_sub_n (g_sub_n (g_sub_n (g_sub_s (g_sub_s (g_sub_s (g_sub_n (g_sub_n (g_sub_n (g_sub_n (g_sub_n (g_sub_n (g_sub_n (g_sub_n (g_sub_n (g_sub_n (g_sub_n (g_sub_n (g_sub_n (g_sub_n (g_sub_n g_sub_0))))))))))))))))))))))))) (b_L_law_b1269 hl hX hret hkb4 hnb4 hkb1228 hnb1228 hK4 hK247 (ih _ _ (by omega) (by omega)) _ _ _ _ _ _)
      · refine X_wid (k' := kb4 + 9451) (n' := nb4 + 56503) (by omega) (by omega) ?_
        exact X_sub (g_sub_s (g_sub_s (g_sub_s (g_sub_s (g_sub_n (g_sub_n (g_sub_n (g_sub_n (g_sub_n (g_sub_n (g_sub_n (g_sub_n (g_sub_n (g_sub_n (g_sub_n (g_sub_n (g_sub_n (g_sub_n (g_sub_n (g_sub_n (g_sub_n (g_sub_n (g_sub_n (g_sub_n (g_sub_n g_sub_0))))))))))))))))))))))))) (b_L_law_b1277 hl hX hret hkb4 hnb4 hK4 hK247 (ih _ _ (by omega) (by omega)) _ _ _ _)
    · refine X_wid (k' := kb4 + 9451) (n' := nb4 + 56503) (by omega) (by omega) ?_
      exact X_sub (g_sub_s (g_sub_s (g_sub_s (g_sub_s (g_sub_n (g_sub_n (g_sub_n (g_sub_n (g_sub_n (g_sub_n (g_sub_n (g_sub_n (g_sub_n (g_sub_n (g_sub_n (g_sub_n (g_sub_n (g_sub_n (g_sub_n (g_sub_n (g_sub_n (g_sub_n (g_sub_n (g_sub_n (g_sub_n g_sub_0))))))))))))))))))))))))) (b_L_law_b1277 hl hX hret hkb4 hnb4 hK4 hK247 (ih _ _ (by omega) (by omega)) _ _ _ _)
set_option maxRecDepth 100000 in
theorem b_L_law_b1225 {l : Launch} {G : gG} (hl : l.stackTraces = false) {Q : State → Array Value → List Frame → Prop} {Z : State → Prop} {b N : Nat} {xs : Nat → Int32} (hX : g_scr G Q b N xs) (hret : ∀ (pc : Nat) (L : List (Option Value)) (h : gH) (k n : Nat) (v : Int32), decode code pc = .ok (.ireturn, 1) → k ≤ 600086 → n ≤ 7301442 → GX l G M_L_law (g_phS Q Z) k n pc L [.int v] h (some (v, h))) {kb4 nb4 : Nat} {K4 : gH → Int32 → Int32 → Option (Int32 × gH)} {K247 : gH → Int32 → Int32 → Nat → Nat → Nat → Nat → Nat → Int32 → Int32 → Option (Int32 × gH)} (hkb4 : kb4 + 9458 ≤ 28374) (hnb4 : nb4 + 56546 ≤ 169638) (hK4 : ∀ (h : gH) (l1 : Int32) (l2 : Int32), GX l G M_L_law (g_phS Q Z) (kb4 + 9458) (nb4 + 56546) 4 [some (.ref b), some (.int l1), some (.int l2), none, none, none, none, none, none, none, none, none, none, none, none, none, none, none, none, none, none, none, none, none, none] [] h (K4 h l1 l2)) (hK247 : ∀ (h : gH) (l1 : Int32) (l2 : Int32) (l3 : Nat) (l4 : Nat) (l5 : Nat) (l6 : Nat) (l7 : Nat) (l8 : Int32) (l9 : Int32), GX l G M_L_law (g_phS Q Z) (kb247 + 313) (nb247 + 1527) 247 [some (.ref b), some (.int l1), some (.int l2), some (.ref l3), some (.ref l4), some (.ref l5), some (.ref l6), some (.ref l7), some (.int l8), some (.int l9), none, none, none, none, none, none, none, none, none, none, none, none, none, none, none] [] h (K247 h l1 l2 l3 l4 l5 l6 l7 l8 l9)) (h : gH) (l1 : Int32) (l2 : Int32) (l3 : Nat) (l7 : Nat) (l8 : Int32) : GX l G M_L_law (g_phS Q Z) (kb4 + 9261) (nb4 + 55363) 1225 [some (.ref b), some (.int l1), some (.int l2), some (.ref l3), none, none, none, some (.ref l7), some (.int l8), none, none, none, none, none, none, none, none, none, none, none, none, none, none, none, none] [] h (f_L_law_b1225 G xs N K4 K247 h l1 l2 l3 l7 l8) := by
  unfold f_L_law_b1225
  refine X_iconst (v := 0) rfl rfl (by decide) ?_
  refine X_istore rfl rfl rfl rfl ?_
  exact X_sub (g_sub_s (g_sub_s (g_sub_s (g_sub_s (g_sub_n (g_sub_n (g_sub_n (g_sub_s (g_sub_s (g_sub_s (g_sub_n (g_sub_n (g_sub_n (g_sub_n (g_sub_n (g_sub_n (g_sub_n (g_sub_n (g_sub_n (g_sub_n (g_sub_n (g_sub_n (g_sub_n (g_sub_n (g_sub_n g_sub_0))))))))))))))))))))))))) (b_L_law_b1228 hl hX hret hkb4 hnb4 hK4 hK247 10 _ _ (by omega) (by omega) _ _ _ _ _ _ _)
set_option maxRecDepth 100000 in
theorem b_L_law_b1218 {l : Launch} {G : gG} (hl : l.stackTraces = false) {Q : State → Array Value → List Frame → Prop} {Z : State → Prop} {b N : Nat} {xs : Nat → Int32} (hX : g_scr G Q b N xs) (hret : ∀ (pc : Nat) (L : List (Option Value)) (h : gH) (k n : Nat) (v : Int32), decode code pc = .ok (.ireturn, 1) → k ≤ 600086 → n ≤ 7301442 → GX l G M_L_law (g_phS Q Z) k n pc L [.int v] h (some (v, h))) {kb4 nb4 : Nat} {kb247 nb247 : Nat} {K4 : gH → Int32 → Int32 → Option (Int32 × gH)} {K247 : gH → Int32 → Int32 → Nat → Nat → Nat → Nat → Nat → Int32 → Int32 → Option (Int32 × gH)} {K345 : gH → Int32 → Nat → Nat → Nat → Nat → Nat → Int32 → Int32 → Nat → Int32 → Int32 → Int32 → Int32 → Option (Int32 × gH)} (hkb4 : kb4 + 9458 ≤ 28374) (hnb4 : nb4 + 56546 ≤ 169638) (hkb247 : kb247 + 313 ≤ kb4 + 9261) (hnb247 : nb247 + 1527 ≤ nb4 + 55363) (hK4 : ∀ (h : gH) (l1 : Int32) (l2 : Int32), GX l G M_L_law (g_phS Q Z) (kb4 + 9458) (nb4 + 56546) 4 [some (.ref b), some (.int l1), some (.int l2), none, none, none, none, none, none, none, none, none, none, none, none, none, none, none, none, none, none, none, none, none, none] [] h (K4 h l1 l2)) (hK247 : ∀ (h : gH) (l1 : Int32) (l2 : Int32) (l3 : Nat) (l4 : Nat) (l5 : Nat) (l6 : Nat) (l7 : Nat) (l8 : Int32) (l9 : Int32), GX l G M_L_law (g_phS Q Z) (kb247 + 313) (nb247 + 1527) 247 [some (.ref b), some (.int l1), some (.int l2), some (.ref l3), some (.ref l4), some (.ref l5), some (.ref l6), some (.ref l7), some (.int l8), some (.int l9), none, none, none, none, none, none, none, none, none, none, none, none, none, none, none] [] h (K247 h l1 l2 l3 l4 l5 l6 l7 l8 l9)) (hK345 : ∀ (h : gH) (l2 : Int32) (l3 : Nat) (l4 : Nat) (l5 : Nat) (l6 : Nat) (l7 : Nat) (l8 : Int32) (l9 : Int32) (l10 : Nat) (l11 : Int32) (l13 : Int32) (l14 : Int32) (l15 : Int32), GX l G M_L_law (g_phS Q Z) (kb247 + 217) (nb247 + 797) 345 [some (.ref b), none, some (.int l2), some (.ref l3), some (.ref l4), some (.ref l5), some (.ref l6), some (.ref l7), some (.int l8), some (.int l9), some (.ref l10), some (.int l11), none, some (.int l13), some (.int l14), some (.int l15), none, none, none, none, none, none, none, none, none] [] h (K345 h l2 l3 l4 l5 l6 l7 l8 l9 l10 l11 l13 l14 l15)) (h : gH) (l2 : Int32) (l3 : Nat) (l4 : Nat) (l5 : Nat) (l6 : Nat) (l7 : Nat) (l8 : Int32) (l9 : Int32) (s0 : Int32) : GX l G M_L_law (g_phS Q Z) (kb247 + 313) (nb247 + 1527) 1218 [some (.ref b), none, some (.int l2), some (.ref l3), some (.ref l4), some (.ref l5), some (.ref l6), some (.ref l7), some (.int l8), some (.int l9), none, none, none, none, none, none, none, none, none, none, none, none, none, none, none] [.int s0] h (f_L_law_b1218 G xs N K4 K247 K345 h l2 l3 l4 l5 l6 l7 l8 l9 s0) := by
  unfold f_L_law_b1218
  refine X_istore_n rfl rfl rfl rfl ?_
  refine X_iinc (v := l9 + 1) rfl rfl rfl (congrArg (fun z => l9 + z) (by decide : Int32.ofInt 1 = 1)) rfl ?_
  refine X_goto rfl rfl ?_
  refine X_wid (k' := kb247 + 313) (n' := nb247 + 1527) (by omega) (by omega) ?_
  exact X_sub (g_sub_s (g_sub_s (g_sub_s (g_sub_s (g_sub_s (g_sub_s (g_sub_s (g_sub_s (g_sub_s (g_sub_s (g_sub_n (g_sub_n (g_sub_n (g_sub_n (g_sub_n (g_sub_n (g_sub_n (g_sub_n (g_sub_n (g_sub_n (g_sub_n (g_sub_n (g_sub_n (g_sub_n (g_sub_n g_sub_0))))))))))))))))))))))))) (hK247 _ _ _ _ _ _ _ _ _ _)
set_option maxRecDepth 100000 in
theorem b_L_law_b1217 {l : Launch} {G : gG} (hl : l.stackTraces = false) {Q : State → Array Value → List Frame → Prop} {Z : State → Prop} {b N : Nat} {xs : Nat → Int32} (hX : g_scr G Q b N xs) (hret : ∀ (pc : Nat) (L : List (Option Value)) (h : gH) (k n : Nat) (v : Int32), decode code pc = .ok (.ireturn, 1) → k ≤ 600086 → n ≤ 7301442 → GX l G M_L_law (g_phS Q Z) k n pc L [.int v] h (some (v, h))) {kb4 nb4 : Nat} {kb247 nb247 : Nat} {K4 : gH → Int32 → Int32 → Option (Int32 × gH)} {K247 : gH → Int32 → Int32 → Nat → Nat → Nat → Nat → Nat → Int32 → Int32 → Option (Int32 × gH)} {K345 : gH → Int32 → Nat → Nat → Nat → Nat → Nat → Int32 → Int32 → Nat → Int32 → Int32 → Int32 → Int32 → Option (Int32 × gH)} (hkb4 : kb4 + 9458 ≤ 28374) (hnb4 : nb4 + 56546 ≤ 169638) (hkb247 : kb247 + 313 ≤ kb4 + 9261) (hnb247 : nb247 + 1527 ≤ nb4 + 55363) (hK4 : ∀ (h : gH) (l1 : Int32) (l2 : Int32), GX l G M_L_law (g_phS Q Z) (kb4 + 9458) (nb4 + 56546) 4 [some (.ref b), some (.int l1), some (.int l2), none, none, none, none, none, none, none, none, none, none, none, none, none, none, none, none, none, none, none, none, none, none] [] h (K4 h l1 l2)) (hK247 : ∀ (h : gH) (l1 : Int32) (l2 : Int32) (l3 : Nat) (l4 : Nat) (l5 : Nat) (l6 : Nat) (l7 : Nat) (l8 : Int32) (l9 : Int32), GX l G M_L_law (g_phS Q Z) (kb247 + 313) (nb247 + 1527) 247 [some (.ref b), some (.int l1), some (.int l2), some (.ref l3), some (.ref l4), some (.ref l5), some (.ref l6), some (.ref l7), some (.int l8), some (.int l9), none, none, none, none, none, none, none, none, none, none, none, none, none, none, none] [] h (K247 h l1 l2 l3 l4 l5 l6 l7 l8 l9)) (hK345 : ∀ (h : gH) (l2 : Int32) (l3 : Nat) (l4 : Nat) (l5 : Nat) (l6 : Nat) (l7 : Nat) (l8 : Int32) (l9 : Int32) (l10 : Nat) (l11 : Int32) (l13 : Int32) (l14 : Int32) (l15 : Int32), GX l G M_L_law (g_phS Q Z) (kb247 + 217) (nb247 + 797) 345 [some (.ref b), none, some (.int l2), some (.ref l3), some (.ref l4), some (.ref l5), some (.ref l6), some (.ref l7), some (.int l8), some (.int l9), some (.ref l10), some (.int l11), none, some (.int l13), some (.int l14), some (.int l15), none, none, none, none, none, none, none, none, none] [] h (K345 h l2 l3 l4 l5 l6 l7 l8 l9 l10 l11 l13 l14 l15)) (h : gH) (l2 : Int32) (l3 : Nat) (l4 : Nat) (l5 : Nat) (l6 : Nat) (l7 : Nat) (l8 : Int32) (l9 : Int32) : GX l G M_L_law (g_phS Q Z) (kb247 + 313) (nb247 + 1527) 1217 [some (.ref b), none, some (.int l2), some (.ref l3), some (.ref l4), some (.ref l5), some (.ref l6), some (.ref l7), some (.int l8), some (.int l9), none, none, none, none, none, none, none, none, none, none, none, none, none, none, none] [] h (f_L_law_b1217 G xs N K4 K247 K345 h l2 l3 l4 l5 l6 l7 l8 l9) := by
  unfold f_L_law_b1217
  refine X_iconst (v := 0) rfl rfl (by decide) ?_
  exact X_sub (g_sub_s (g_sub_n (g_sub_s (g_sub_s (g_sub_s (g_sub_s (g_sub_s (g_sub_s (g_sub_s (g_sub_s (g_sub_n (g_sub_n (g_sub_n (g_sub_n (g_sub_n (g_sub_n (g_sub_n (g_sub_n (g_sub_n (g_sub_n (g_sub_n (g_sub_n (g_sub_n (g_sub_n (g_sub_n g_sub_0))))))))))))))))))))))))) (b_L_law_b1218 hl hX hret hkb4 hnb4 hkb247 hnb247 hK4 hK247 hK345 _ _ _ _ _ _ _ _ _ _)
set_option maxRecDepth 100000 in
theorem b_L_law_b1200 {l : Launch} {G : gG} (hl : l.stackTraces = false) {Q : State → Array Value → List Frame → Prop} {Z : State → Prop} {b N : Nat} {xs : Nat → Int32} (hX : g_scr G Q b N xs) (hret : ∀ (pc : Nat) (L : List (Option Value)) (h : gH) (k n : Nat) (v : Int32), decode code pc = .ok (.ireturn, 1) → k ≤ 600086 → n ≤ 7301442 → GX l G M_L_law (g_phS Q Z) k n pc L [.int v] h (some (v, h))) {kb4 nb4 : Nat} {kb247 nb247 : Nat} {K4 : gH → Int32 → Int32 → Option (Int32 × gH)} {K247 : gH → Int32 → Int32 → Nat → Nat → Nat → Nat → Nat → Int32 → Int32 → Option (Int32 × gH)} {K345 : gH → Int32 → Nat → Nat → Nat → Nat → Nat → Int32 → Int32 → Nat → Int32 → Int32 → Int32 → Int32 → Option (Int32 × gH)} (hkb4 : kb4 + 9458 ≤ 28374) (hnb4 : nb4 + 56546 ≤ 169638) (hkb247 : kb247 + 313 ≤ kb4 + 9261) (hnb247 : nb247 + 1527 ≤ nb4 + 55363) (hK4 : ∀ (h : gH) (l1 : Int32) (l2 : Int32), GX l G M_L_law (g_phS Q Z) (kb4 + 9458) (nb4 + 56546) 4 [some (.ref b), some (.int l1), some (.int l2), none, none, none, none, none, none, none, none, none, none, none, none, none, none, none, none, none, none, none, none, none, none] [] h (K4 h l1 l2)) (hK247 : ∀ (h : gH) (l1 : Int32) (l2 : Int32) (l3 : Nat) (l4 : Nat) (l5 : Nat) (l6 : Nat) (l7 : Nat) (l8 : Int32) (l9 : Int32), GX l G M_L_law (g_phS Q Z) (kb247 + 313) (nb247 + 1527) 247 [some (.ref b), some (.int l1), some (.int l2), some (.ref l3), some (.ref l4), some (.ref l5), some (.ref l6), some (.ref l7), some (.int l8), some (.int l9), none, none, none, none, none, none, none, none, none, none, none, none, none, none, none] [] h (K247 h l1 l2 l3 l4 l5 l6 l7 l8 l9)) (hK345 : ∀ (h : gH) (l2 : Int32) (l3 : Nat) (l4 : Nat) (l5 : Nat) (l6 : Nat) (l7 : Nat) (l8 : Int32) (l9 : Int32) (l10 : Nat) (l11 : Int32) (l13 : Int32) (l14 : Int32) (l15 : Int32), GX l G M_L_law (g_phS Q Z) (kb247 + 217) (nb247 + 797) 345 [some (.ref b), none, some (.int l2), some (.ref l3), some (.ref l4), some (.ref l5), some (.ref l6), some (.ref l7), some (.int l8), some (.int l9), some (.ref l10), some (.int l11), none, some (.int l13), some (.int l14), some (.int l15), none, none, none, none, none, none, none, none, none] [] h (K345 h l2 l3 l4 l5 l6 l7 l8 l9 l10 l11 l13 l14 l15)) (h : gH) (l1 : Int32) (l2 : Int32) (l3 : Nat) (l4 : Nat) (l5 : Nat) (l6 : Nat) (l7 : Nat) (l8 : Int32) (l9 : Int32) : GX l G M_L_law (g_phS Q Z) (kb247 + 294) (nb247 + 1413) 1200 [some (.ref b), some (.int l1), some (.int l2), some (.ref l3), some (.ref l4), some (.ref l5), some (.ref l6), some (.ref l7), some (.int l8), some (.int l9), none, none, none, none, none, none, none, none, none, none, none, none, none, none, none] [] h (f_L_law_b1200 G xs N K4 K247 K345 h l1 l2 l3 l4 l5 l6 l7 l8 l9) := by
  unfold f_L_law_b1200
  refine X_iload_n rfl rfl rfl ?_
  refine X_bif_eq rfl rfl (fun _ => ?_) (fun _ => ?_)
  · refine X_wid (k' := kb247 + 313) (n' := nb247 + 1527) (by omega) (by omega) ?_
    exact X_sub (g_sub_s (g_sub_n (g_sub_s (g_sub_s (g_sub_s (g_sub_s (g_sub_s (g_sub_s (g_sub_s (g_sub_s (g_sub_n (g_sub_n (g_sub_n (g_sub_n (g_sub_n (g_sub_n (g_sub_n (g_sub_n (g_sub_n (g_sub_n (g_sub_n (g_sub_n (g_sub_n (g_sub_n (g_sub_n g_sub_0))))))))))))))))))))))))) (b_L_law_b1217 hl hX hret hkb4 hnb4 hkb247 hnb247 hK4 hK247 hK345 _ _ _ _ _ _ _ _ _)
  · refine X_aload_n rfl rfl rfl ?_
    refine X_aload rfl rfl rfl ?_
    refine X_kS_I (k1 := kb247 + 313) (n1 := nb247 + 1527) (M' := M_L_agrees) (nA := 2) (As := [.ref l3, .ref l6]) (st := []) rfl rfl (by decide +kernel) rfl rfl rfl (by show kb247 + 294 + 19 = kb247 + 313; omega) (by show nb247 + 1413 + 114 = nb247 + 1527; omega) (X_ble (by show kb247 + 313 ≤ 600086; omega)) (X_ble (by show nb247 + 1527 ≤ 7301442; omega)) (fun _ _ e => ct_L_agrees hl  e) (fun y1207 => ?_)
    refine X_bif_eq rfl rfl (fun _ => ?_) (fun _ => ?_)
    · exact X_sub (g_sub_s (g_sub_n (g_sub_s (g_sub_s (g_sub_s (g_sub_s (g_sub_s (g_sub_s (g_sub_s (g_sub_s (g_sub_n (g_sub_n (g_sub_n (g_sub_n (g_sub_n (g_sub_n (g_sub_n (g_sub_n (g_sub_n (g_sub_n (g_sub_n (g_sub_n (g_sub_n (g_sub_n (g_sub_n g_sub_0))))))))))))))))))))))))) (b_L_law_b1217 hl hX hret hkb4 hnb4 hkb247 hnb247 hK4 hK247 hK345 _ _ _ _ _ _ _ _ _)
    · refine X_iconst (v := 1) rfl rfl (by decide) ?_
      refine X_goto rfl rfl ?_
      exact X_sub (g_sub_s (g_sub_n (g_sub_s (g_sub_s (g_sub_s (g_sub_s (g_sub_s (g_sub_s (g_sub_s (g_sub_s (g_sub_n (g_sub_n (g_sub_n (g_sub_n (g_sub_n (g_sub_n (g_sub_n (g_sub_n (g_sub_n (g_sub_n (g_sub_n (g_sub_n (g_sub_n (g_sub_n (g_sub_n g_sub_0))))))))))))))))))))))))) (b_L_law_b1218 hl hX hret hkb4 hnb4 hkb247 hnb247 hK4 hK247 hK345 _ _ _ _ _ _ _ _ _ _)
set_option maxRecDepth 100000 in
theorem b_L_law_b1168 {l : Launch} {G : gG} (hl : l.stackTraces = false) {Q : State → Array Value → List Frame → Prop} {Z : State → Prop} {b N : Nat} {xs : Nat → Int32} (hX : g_scr G Q b N xs) (hret : ∀ (pc : Nat) (L : List (Option Value)) (h : gH) (k n : Nat) (v : Int32), decode code pc = .ok (.ireturn, 1) → k ≤ 600086 → n ≤ 7301442 → GX l G M_L_law (g_phS Q Z) k n pc L [.int v] h (some (v, h))) {kb4 nb4 : Nat} {kb247 nb247 : Nat} {K4 : gH → Int32 → Int32 → Option (Int32 × gH)} {K247 : gH → Int32 → Int32 → Nat → Nat → Nat → Nat → Nat → Int32 → Int32 → Option (Int32 × gH)} {K345 : gH → Int32 → Nat → Nat → Nat → Nat → Nat → Int32 → Int32 → Nat → Int32 → Int32 → Int32 → Int32 → Option (Int32 × gH)} (hkb4 : kb4 + 9458 ≤ 28374) (hnb4 : nb4 + 56546 ≤ 169638) (hkb247 : kb247 + 313 ≤ kb4 + 9261) (hnb247 : nb247 + 1527 ≤ nb4 + 55363) (hK4 : ∀ (h : gH) (l1 : Int32) (l2 : Int32), GX l G M_L_law (g_phS Q Z) (kb4 + 9458) (nb4 + 56546) 4 [some (.ref b), some (.int l1), some (.int l2), none, none, none, none, none, none, none, none, none, none, none, none, none, none, none, none, none, none, none, none, none, none] [] h (K4 h l1 l2)) (hK247 : ∀ (h : gH) (l1 : Int32) (l2 : Int32) (l3 : Nat) (l4 : Nat) (l5 : Nat) (l6 : Nat) (l7 : Nat) (l8 : Int32) (l9 : Int32), GX l G M_L_law (g_phS Q Z) (kb247 + 313) (nb247 + 1527) 247 [some (.ref b), some (.int l1), some (.int l2), some (.ref l3), some (.ref l4), some (.ref l5), some (.ref l6), some (.ref l7), some (.int l8), some (.int l9), none, none, none, none, none, none, none, none, none, none, none, none, none, none, none] [] h (K247 h l1 l2 l3 l4 l5 l6 l7 l8 l9)) (hK345 : ∀ (h : gH) (l2 : Int32) (l3 : Nat) (l4 : Nat) (l5 : Nat) (l6 : Nat) (l7 : Nat) (l8 : Int32) (l9 : Int32) (l10 : Nat) (l11 : Int32) (l13 : Int32) (l14 : Int32) (l15 : Int32), GX l G M_L_law (g_phS Q Z) (kb247 + 217) (nb247 + 797) 345 [some (.ref b), none, some (.int l2), some (.ref l3), some (.ref l4), some (.ref l5), some (.ref l6), some (.ref l7), some (.int l8), some (.int l9), some (.ref l10), some (.int l11), none, some (.int l13), some (.int l14), some (.int l15), none, none, none, none, none, none, none, none, none] [] h (K345 h l2 l3 l4 l5 l6 l7 l8 l9 l10 l11 l13 l14 l15)) : ∀ (n : Nat) (h : gH) (l1 : Int32) (l2 : Int32) (l3 : Nat) (l4 : Nat) (l5 : Nat) (l6 : Nat) (l7 : Nat) (l8 : Int32) (l9 : Int32) (l10 : Nat) (l13 : Int32), GX l G M_L_law (g_phS Q Z) (kb247 + 294) (nb247 + 1413) 1168 [some (.ref b), some (.int l1), some (.int l2), some (.ref l3), some (.ref l4), some (.ref l5), some (.ref l6), some (.ref l7), some (.int l8), some (.int l9), some (.ref l10), none, none, some (.int l13), none, none, none, none, none, none, none, none, none, none, none] [] h (f_L_law_b1168 G xs N K4 K247 K345 n h l1 l2 l3 l4 l5 l6 l7 l8 l9 l10 l13) := by
  intro n
  induction n with
  | zero => intros; exact X_none
  | succ n ih =>
    intro h l1 l2 l3 l4 l5 l6 l7 l8 l9 l10 l13
    rw [f_L_law_b1168]
    refine X_iload rfl rfl rfl ?_
    refine X_bif_le rfl rfl (fun _ => ?_) (fun _ => ?_)
    · refine X_aload rfl rfl rfl ?_
      refine X_iload rfl rfl rfl ?_
      refine X_aload rfl rfl rfl ?_
      refine X_iload rfl rfl rfl ?_
      refine X_iconst (v := 1) rfl rfl (by decide) ?_
      refine X_isub rfl rfl ?_
      refine X_qld9 (t := 9) rfl rfl (by simp) (fun v1183 => ?_)
      refine X_nn (fun v1183n e1183 => ?_)
      subst e1183
      refine X_qst (t := 9) (ci := 10) (C := "LampRelayLaw$Line") rfl rfl rfl rfl (fun h1184 => ?_)
      refine X_iinc (v := l13 + (-1)) rfl rfl rfl (congrArg (fun z => l13 + z) (by decide : Int32.ofInt (-1) = (-1))) rfl ?_
      refine X_goto rfl rfl ?_
      exact X_sub (g_sub_s (g_sub_s (g_sub_s (g_sub_s (g_sub_s (g_sub_s (g_sub_s (g_sub_s (g_sub_s (g_sub_s (g_sub_s (g_sub_n (g_sub_n (g_sub_s (g_sub_n (g_sub_n (g_sub_n (g_sub_n (g_sub_n (g_sub_n (g_sub_n (g_sub_n (g_sub_n (g_sub_n (g_sub_n g_sub_0))))))))))))))))))))))))) (ih _ _ _ _ _ _ _ _ _ _ _ _)
    · refine X_aload rfl rfl rfl ?_
      refine X_iconst (v := 0) rfl rfl (by decide) ?_
      refine X_aload rfl rfl rfl ?_
      refine X_qst (t := 9) (ci := 10) (C := "LampRelayLaw$Line") rfl rfl rfl rfl (fun h1196 => ?_)
      refine X_iinc (v := l8 + 1) rfl rfl rfl (congrArg (fun z => l8 + z) (by decide : Int32.ofInt 1 = 1)) rfl ?_
      exact X_sub (g_sub_s (g_sub_s (g_sub_s (g_sub_s (g_sub_s (g_sub_s (g_sub_s (g_sub_s (g_sub_s (g_sub_s (g_sub_n (g_sub_n (g_sub_n (g_sub_n (g_sub_n (g_sub_n (g_sub_n (g_sub_n (g_sub_n (g_sub_n (g_sub_n (g_sub_n (g_sub_n (g_sub_n (g_sub_n g_sub_0))))))))))))))))))))))))) (b_L_law_b1200 hl hX hret hkb4 hnb4 hkb247 hnb247 hK4 hK247 hK345 _ _ _ _ _ _ _ _ _ _)
set_option maxRecDepth 100000 in
theorem b_L_law_b1159 {l : Launch} {G : gG} (hl : l.stackTraces = false) {Q : State → Array Value → List Frame → Prop} {Z : State → Prop} {b N : Nat} {xs : Nat → Int32} (hX : g_scr G Q b N xs) (hret : ∀ (pc : Nat) (L : List (Option Value)) (h : gH) (k n : Nat) (v : Int32), decode code pc = .ok (.ireturn, 1) → k ≤ 600086 → n ≤ 7301442 → GX l G M_L_law (g_phS Q Z) k n pc L [.int v] h (some (v, h))) {kb4 nb4 : Nat} {kb247 nb247 : Nat} {K4 : gH → Int32 → Int32 → Option (Int32 × gH)} {K247 : gH → Int32 → Int32 → Nat → Nat → Nat → Nat → Nat → Int32 → Int32 → Option (Int32 × gH)} {K345 : gH → Int32 → Nat → Nat → Nat → Nat → Nat → Int32 → Int32 → Nat → Int32 → Int32 → Int32 → Int32 → Option (Int32 × gH)} (hkb4 : kb4 + 9458 ≤ 28374) (hnb4 : nb4 + 56546 ≤ 169638) (hkb247 : kb247 + 313 ≤ kb4 + 9261) (hnb247 : nb247 + 1527 ≤ nb4 + 55363) (hK4 : ∀ (h : gH) (l1 : Int32) (l2 : Int32), GX l G M_L_law (g_phS Q Z) (kb4 + 9458) (nb4 + 56546) 4 [some (.ref b), some (.int l1), some (.int l2), none, none, none, none, none, none, none, none, none, none, none, none, none, none, none, none, none, none, none, none, none, none] [] h (K4 h l1 l2)) (hK247 : ∀ (h : gH) (l1 : Int32) (l2 : Int32) (l3 : Nat) (l4 : Nat) (l5 : Nat) (l6 : Nat) (l7 : Nat) (l8 : Int32) (l9 : Int32), GX l G M_L_law (g_phS Q Z) (kb247 + 313) (nb247 + 1527) 247 [some (.ref b), some (.int l1), some (.int l2), some (.ref l3), some (.ref l4), some (.ref l5), some (.ref l6), some (.ref l7), some (.int l8), some (.int l9), none, none, none, none, none, none, none, none, none, none, none, none, none, none, none] [] h (K247 h l1 l2 l3 l4 l5 l6 l7 l8 l9)) (hK345 : ∀ (h : gH) (l2 : Int32) (l3 : Nat) (l4 : Nat) (l5 : Nat) (l6 : Nat) (l7 : Nat) (l8 : Int32) (l9 : Int32) (l10 : Nat) (l11 : Int32) (l13 : Int32) (l14 : Int32) (l15 : Int32), GX l G M_L_law (g_phS Q Z) (kb247 + 217) (nb247 + 797) 345 [some (.ref b), none, some (.int l2), some (.ref l3), some (.ref l4), some (.ref l5), some (.ref l6), some (.ref l7), some (.int l8), some (.int l9), some (.ref l10), some (.int l11), none, some (.int l13), some (.int l14), some (.int l15), none, none, none, none, none, none, none, none, none] [] h (K345 h l2 l3 l4 l5 l6 l7 l8 l9 l10 l11 l13 l14 l15)) (h : gH) (l1 : Int32) (l2 : Int32) (l3 : Nat) (l4 : Nat) (l5 : Nat) (l6 : Nat) (l7 : Nat) (l8 : Int32) (l9 : Int32) (l10 : Nat) (l11 : Int32) : GX l G M_L_law (g_phS Q Z) (kb247 + 294) (nb247 + 1413) 1159 [some (.ref b), some (.int l1), some (.int l2), some (.ref l3), some (.ref l4), some (.ref l5), some (.ref l6), some (.ref l7), some (.int l8), some (.int l9), some (.ref l10), some (.int l11), none, none, none, none, none, none, none, none, none, none, none, none, none] [] h (f_L_law_b1159 G xs N K4 K247 K345 h l1 l2 l3 l4 l5 l6 l7 l8 l9 l10 l11) := by
  unfold f_L_law_b1159
  refine X_iload rfl rfl rfl ?_
  refine X_bif_eq rfl rfl (fun _ => ?_) (fun _ => ?_)
  · exact X_sub (g_sub_s (g_sub_s (g_sub_s (g_sub_s (g_sub_s (g_sub_s (g_sub_s (g_sub_s (g_sub_s (g_sub_s (g_sub_n (g_sub_n (g_sub_n (g_sub_n (g_sub_n (g_sub_n (g_sub_n (g_sub_n (g_sub_n (g_sub_n (g_sub_n (g_sub_n (g_sub_n (g_sub_n (g_sub_n g_sub_0))))))))))))))))))))))))) (b_L_law_b1200 hl hX hret hkb4 hnb4 hkb247 hnb247 hK4 hK247 hK345 _ _ _ _ _ _ _ _ _ _)
  · refine X_bipush (v := 8) rfl rfl (by decide) ?_
    refine X_istore rfl rfl rfl rfl ?_
    exact X_sub (g_sub_s (g_sub_s (g_sub_s (g_sub_s (g_sub_s (g_sub_s (g_sub_s (g_sub_s (g_sub_s (g_sub_s (g_sub_s (g_sub_n (g_sub_n (g_sub_s (g_sub_n (g_sub_n (g_sub_n (g_sub_n (g_sub_n (g_sub_n (g_sub_n (g_sub_n (g_sub_n (g_sub_n (g_sub_n g_sub_0))))))))))))))))))))))))) (b_L_law_b1168 hl hX hret hkb4 hnb4 hkb247 hnb247 hK4 hK247 hK345 g_N _ _ _ _ _ _ _ _ _ _ _ _)
set_option maxRecDepth 100000 in
theorem b_L_law_b384 {l : Launch} {G : gG} (hl : l.stackTraces = false) {Q : State → Array Value → List Frame → Prop} {Z : State → Prop} {b N : Nat} {xs : Nat → Int32} (hX : g_scr G Q b N xs) (hret : ∀ (pc : Nat) (L : List (Option Value)) (h : gH) (k n : Nat) (v : Int32), decode code pc = .ok (.ireturn, 1) → k ≤ 600086 → n ≤ 7301442 → GX l G M_L_law (g_phS Q Z) k n pc L [.int v] h (some (v, h))) {kb4 nb4 : Nat} {kb247 nb247 : Nat} {K4 : gH → Int32 → Int32 → Option (Int32 × gH)} {K247 : gH → Int32 → Int32 → Nat → Nat → Nat → Nat → Nat → Int32 → Int32 → Option (Int32 × gH)} {K345 : gH → Int32 → Nat → Nat → Nat → Nat → Nat → Int32 → Int32 → Nat → Int32 → Int32 → Int32 → Int32 → Option (Int32 × gH)} (hkb4 : kb4 + 9458 ≤ 28374) (hnb4 : nb4 + 56546 ≤ 169638) (hkb247 : kb247 + 313 ≤ kb4 + 9261) (hnb247 : nb247 + 1527 ≤ nb4 + 55363) (hK4 : ∀ (h : gH) (l1 : Int32) (l2 : Int32), GX l G M_L_law (g_phS Q Z) (kb4 + 9458) (nb4 + 56546) 4 [some (.ref b), some (.int l1), some (.int l2), none, none, none, none, none, none, none, none, none, none, none, none, none, none, none, none, none, none, none, none, none, none] [] h (K4 h l1 l2)) (hK247 : ∀ (h : gH) (l1 : Int32) (l2 : Int32) (l3 : Nat) (l4 : Nat) (l5 : Nat) (l6 : Nat) (l7 : Nat) (l8 : Int32) (l9 : Int32), GX l G M_L_law (g_phS Q Z) (kb247 + 313) (nb247 + 1527) 247 [some (.ref b), some (.int l1), some (.int l2), some (.ref l3), some (.ref l4), some (.ref l5), some (.ref l6), some (.ref l7), some (.int l8), some (.int l9), none, none, none, none, none, none, none, none, none, none, none, none, none, none, none] [] h (K247 h l1 l2 l3 l4 l5 l6 l7 l8 l9)) (hK345 : ∀ (h : gH) (l2 : Int32) (l3 : Nat) (l4 : Nat) (l5 : Nat) (l6 : Nat) (l7 : Nat) (l8 : Int32) (l9 : Int32) (l10 : Nat) (l11 : Int32) (l13 : Int32) (l14 : Int32) (l15 : Int32), GX l G M_L_law (g_phS Q Z) (kb247 + 217) (nb247 + 797) 345 [some (.ref b), none, some (.int l2), some (.ref l3), some (.ref l4), some (.ref l5), some (.ref l6), some (.ref l7), some (.int l8), some (.int l9), some (.ref l10), some (.int l11), none, some (.int l13), some (.int l14), some (.int l15), none, none, none, none, none, none, none, none, none] [] h (K345 h l2 l3 l4 l5 l6 l7 l8 l9 l10 l11 l13 l14 l15)) (h : gH) (l2 : Int32) (l3 : Nat) (l4 : Nat) (l5 : Nat) (l6 : Nat) (l7 : Nat) (l8 : Int32) (l9 : Int32) (l10 : Nat) (l11 : Int32) (s0 : Int32) : GX l G M_L_law (g_phS Q Z) (kb247 + 218) (nb247 + 803) 384 [some (.ref b), none, some (.int l2), some (.ref l3), some (.ref l4), some (.ref l5), some (.ref l6), some (.ref l7), some (.int l8), some (.int l9), some (.ref l10), some (.int l11), none, none, none, none, none, none, none, none, none, none, none, none, none] [.int s0] h (f_L_law_b384 G xs N K4 K247 K345 h l2 l3 l4 l5 l6 l7 l8 l9 l10 l11 s0) := by
  unfold f_L_law_b384
  refine X_istore_n rfl rfl rfl rfl ?_
  refine X_goto rfl rfl ?_
  refine X_wid (k' := kb247 + 294) (n' := nb247 + 1413) (by omega) (by omega) ?_
  exact X_sub (g_sub_s (g_sub_s (g_sub_s (g_sub_s (g_sub_s (g_sub_s (g_sub_s (g_sub_s (g_sub_s (g_sub_s (g_sub_s (g_sub_s (g_sub_n (g_sub_n (g_sub_n (g_sub_n (g_sub_n (g_sub_n (g_sub_n (g_sub_n (g_sub_n (g_sub_n (g_sub_n (g_sub_n (g_sub_n g_sub_0))))))))))))))))))))))))) (b_L_law_b1159 hl hX hret hkb4 hnb4 hkb247 hnb247 hK4 hK247 hK345 _ _ _ _ _ _ _ _ _ _ _ _)
set_option maxRecDepth 100000 in
theorem b_L_law_b345 {l : Launch} {G : gG} (hl : l.stackTraces = false) {Q : State → Array Value → List Frame → Prop} {Z : State → Prop} {b N : Nat} {xs : Nat → Int32} (hX : g_scr G Q b N xs) (hret : ∀ (pc : Nat) (L : List (Option Value)) (h : gH) (k n : Nat) (v : Int32), decode code pc = .ok (.ireturn, 1) → k ≤ 600086 → n ≤ 7301442 → GX l G M_L_law (g_phS Q Z) k n pc L [.int v] h (some (v, h))) {kb4 nb4 : Nat} {kb247 nb247 : Nat} {K4 : gH → Int32 → Int32 → Option (Int32 × gH)} {K247 : gH → Int32 → Int32 → Nat → Nat → Nat → Nat → Nat → Int32 → Int32 → Option (Int32 × gH)} (hkb4 : kb4 + 9458 ≤ 28374) (hnb4 : nb4 + 56546 ≤ 169638) (hkb247 : kb247 + 313 ≤ kb4 + 9261) (hnb247 : nb247 + 1527 ≤ nb4 + 55363) (hK4 : ∀ (h : gH) (l1 : Int32) (l2 : Int32), GX l G M_L_law (g_phS Q Z) (kb4 + 9458) (nb4 + 56546) 4 [some (.ref b), some (.int l1), some (.int l2), none, none, none, none, none, none, none, none, none, none, none, none, none, none, none, none, none, none, none, none, none, none] [] h (K4 h l1 l2)) (hK247 : ∀ (h : gH) (l1 : Int32) (l2 : Int32) (l3 : Nat) (l4 : Nat) (l5 : Nat) (l6 : Nat) (l7 : Nat) (l8 : Int32) (l9 : Int32), GX l G M_L_law (g_phS Q Z) (kb247 + 313) (nb247 + 1527) 247 [some (.ref b), some (.int l1), some (.int l2), some (.ref l3), some (.ref l4), some (.ref l5), some (.ref l6), some (.ref l7), some (.int l8), some (.int l9), none, none, none, none, none, none, none, none, none, none, none, none, none, none, none] [] h (K247 h l1 l2 l3 l4 l5 l6 l7 l8 l9)) : ∀ (n : Nat) (h : gH) (l2 : Int32) (l3 : Nat) (l4 : Nat) (l5 : Nat) (l6 : Nat) (l7 : Nat) (l8 : Int32) (l9 : Int32) (l10 : Nat) (l11 : Int32) (l13 : Int32) (l14 : Int32) (l15 : Int32), GX l G M_L_law (g_phS Q Z) (kb247 + 217) (nb247 + 797) 345 [some (.ref b), none, some (.int l2), some (.ref l3), some (.ref l4), some (.ref l5), some (.ref l6), some (.ref l7), some (.int l8), some (.int l9), some (.ref l10), some (.int l11), none, some (.int l13), some (.int l14), some (.int l15), none, none, none, none, none, none, none, none, none] [] h (f_L_law_b345 G xs N K4 K247 n h l2 l3 l4 l5 l6 l7 l8 l9 l10 l11 l13 l14 l15) := by
  intro n
  induction n with
  | zero => intros; exact X_none
  | succ n ih =>
    intro h l2 l3 l4 l5 l6 l7 l8 l9 l10 l11 l13 l14 l15
    rw [f_L_law_b345]
    refine X_iload rfl rfl rfl ?_
    refine X_iload rfl rfl rfl ?_
    refine X_bicmp_ge rfl rfl (fun _ => ?_) (fun _ => ?_)
    · refine X_iload rfl rfl rfl ?_
      refine X_aload rfl rfl rfl ?_
      refine X_kV_I (k1 := kb247 + 217) (n1 := nb247 + 797) (M' := M_X10_ticks) (nA := 0) (As := []) (st := [.int l14]) (b := l6) (ci := 10) rfl rfl (by decide +kernel) rfl rfl rfl rfl (by show kb247 + 217 + 0 = kb247 + 217; omega) (by show nb247 + 797 + 0 = nb247 + 797; omega) (X_ble (by show kb247 + 217 ≤ 600086; omega)) (X_ble (by show nb247 + 797 ≤ 7301442; omega)) (fun _ _ e => ct_X10_ticks  e) (fun y356 => ?_)
      refine X_iadd rfl rfl ?_
      refine X_istore rfl rfl rfl rfl ?_
      refine X_iinc (v := l15 + 1) rfl rfl rfl (congrArg (fun z => l15 + z) (by decide : Int32.ofInt 1 = 1)) rfl ?_
      refine X_goto rfl rfl ?_
      exact X_sub (g_sub_s (g_sub_n (g_sub_s (g_sub_s (g_sub_s (g_sub_s (g_sub_s (g_sub_s (g_sub_s (g_sub_s (g_sub_s (g_sub_s (g_sub_n (g_sub_s (g_sub_s (g_sub_s (g_sub_n (g_sub_n (g_sub_n (g_sub_n (g_sub_n (g_sub_n (g_sub_n (g_sub_n (g_sub_n g_sub_0))))))))))))))))))))))))) (ih _ _ _ _ _ _ _ _ _ _ _ _ _ _)
    · refine X_aload_n rfl rfl rfl ?_
      refine X_iload rfl rfl rfl ?_
      refine X_kY_I (k1 := kb247 + 218) (n1 := nb247 + 803) (M' := M_L_pass) (nA := 2) (As := [.ref l3, .int l13]) (st := []) rfl rfl (by decide +kernel) rfl rfl rfl (by show kb247 + 217 + 1 = kb247 + 218; omega) (by show nb247 + 797 + 6 = nb247 + 803; omega) (X_ble (by show kb247 + 218 ≤ 600086; omega)) (X_ble (by show nb247 + 803 ≤ 7301442; omega)) (fun _ _ e => cy_L_pass hl  e) (fun y371 => ?_)
      refine X_iload rfl rfl rfl ?_
      refine X_bicmp_ne rfl rfl (fun _ => ?_) (fun _ => ?_)
      · refine X_iconst (v := 1) rfl rfl (by decide) ?_
        refine X_goto rfl rfl ?_
        exact X_sub (g_sub_s (g_sub_n (g_sub_s (g_sub_s (g_sub_s (g_sub_s (g_sub_s (g_sub_s (g_sub_s (g_sub_s (g_sub_s (g_sub_s (g_sub_n (g_sub_n (g_sub_n (g_sub_n (g_sub_n (g_sub_n (g_sub_n (g_sub_n (g_sub_n (g_sub_n (g_sub_n (g_sub_n (g_sub_n g_sub_0))))))))))))))))))))))))) (b_L_law_b384 hl hX hret hkb4 hnb4 hkb247 hnb247 hK4 hK247 ih _ _ _ _ _ _ _ _ _ _ _ _)
      · refine X_iconst (v := 0) rfl rfl (by decide) ?_
        exact X_sub (g_sub_s (g_sub_n (g_sub_s (g_sub_s (g_sub_s (g_sub_s (g_sub_s (g_sub_s (g_sub_s (g_sub_s (g_sub_s (g_sub_s (g_sub_n (g_sub_n (g_sub_n (g_sub_n (g_sub_n (g_sub_n (g_sub_n (g_sub_n (g_sub_n (g_sub_n (g_sub_n (g_sub_n (g_sub_n g_sub_0))))))))))))))))))))))))) (b_L_law_b384 hl hX hret hkb4 hnb4 hkb247 hnb247 hK4 hK247 ih _ _ _ _ _ _ _ _ _ _ _ _)
set_option maxRecDepth 100000 in
theorem b_L_law_b498 {l : Launch} {G : gG} (hl : l.stackTraces = false) {Q : State → Array Value → List Frame → Prop} {Z : State → Prop} {b N : Nat} {xs : Nat → Int32} (hX : g_scr G Q b N xs) (hret : ∀ (pc : Nat) (L : List (Option Value)) (h : gH) (k n : Nat) (v : Int32), decode code pc = .ok (.ireturn, 1) → k ≤ 600086 → n ≤ 7301442 → GX l G M_L_law (g_phS Q Z) k n pc L [.int v] h (some (v, h))) {kb4 nb4 : Nat} {kb247 nb247 : Nat} {K4 : gH → Int32 → Int32 → Option (Int32 × gH)} {K247 : gH → Int32 → Int32 → Nat → Nat → Nat → Nat → Nat → Int32 → Int32 → Option (Int32 × gH)} (hkb4 : kb4 + 9458 ≤ 28374) (hnb4 : nb4 + 56546 ≤ 169638) (hkb247 : kb247 + 313 ≤ kb4 + 9261) (hnb247 : nb247 + 1527 ≤ nb4 + 55363) (hK4 : ∀ (h : gH) (l1 : Int32) (l2 : Int32), GX l G M_L_law (g_phS Q Z) (kb4 + 9458) (nb4 + 56546) 4 [some (.ref b), some (.int l1), some (.int l2), none, none, none, none, none, none, none, none, none, none, none, none, none, none, none, none, none, none, none, none, none, none] [] h (K4 h l1 l2)) (hK247 : ∀ (h : gH) (l1 : Int32) (l2 : Int32) (l3 : Nat) (l4 : Nat) (l5 : Nat) (l6 : Nat) (l7 : Nat) (l8 : Int32) (l9 : Int32), GX l G M_L_law (g_phS Q Z) (kb247 + 313) (nb247 + 1527) 247 [some (.ref b), some (.int l1), some (.int l2), some (.ref l3), some (.ref l4), some (.ref l5), some (.ref l6), some (.ref l7), some (.int l8), some (.int l9), none, none, none, none, none, none, none, none, none, none, none, none, none, none, none] [] h (K247 h l1 l2 l3 l4 l5 l6 l7 l8 l9)) (h : gH) (l2 : Int32) (l3 : Nat) (l4 : Nat) (l5 : Nat) (l6 : Nat) (l7 : Nat) (l8 : Int32) (l9 : Int32) (l10 : Nat) (l11 : Int32) (s0 : Int32) : GX l G M_L_law (g_phS Q Z) (kb247 + 294) (nb247 + 1413) 498 [some (.ref b), none, some (.int l2), some (.ref l3), some (.ref l4), some (.ref l5), some (.ref l6), some (.ref l7), some (.int l8), some (.int l9), some (.ref l10), some (.int l11), none, none, none, none, none, none, none, none, none, none, none, none, none] [.int s0] h (f_L_law_b498 G xs N K4 K247 h l2 l3 l4 l5 l6 l7 l8 l9 l10 l11 s0) := by
  unfold f_L_law_b498
  refine X_istore_n rfl rfl rfl rfl ?_
  refine X_goto rfl rfl ?_
  exact X_sub (g_sub_s (g_sub_s (g_sub_s (g_sub_s (g_sub_s (g_sub_s (g_sub_s (g_sub_s (g_sub_s (g_sub_s (g_sub_s (g_sub_s (g_sub_n (g_sub_n (g_sub_n (g_sub_n (g_sub_n (g_sub_n (g_sub_n (g_sub_n (g_sub_n (g_sub_n (g_sub_n (g_sub_n (g_sub_n g_sub_0))))))))))))))))))))))))) (b_L_law_b1159 hl hX hret hkb4 hnb4 hkb247 hnb247 hK4 hK247 hK345 _ _ _ _ _ _ _ _ _ _ _ _)
set_option maxRecDepth 100000 in
theorem b_L_law_b497 {l : Launch} {G : gG} (hl : l.stackTraces = false) {Q : State → Array Value → List Frame → Prop} {Z : State → Prop} {b N : Nat} {xs : Nat → Int32} (hX : g_scr G Q b N xs) (hret : ∀ (pc : Nat) (L : List (Option Value)) (h : gH) (k n : Nat) (v : Int32), decode code pc = .ok (.ireturn, 1) → k ≤ 600086 → n ≤ 7301442 → GX l G M_L_law (g_phS Q Z) k n pc L [.int v] h (some (v, h))) {kb4 nb4 : Nat} {kb247 nb247 : Nat} {K4 : gH → Int32 → Int32 → Option (Int32 × gH)} {K247 : gH → Int32 → Int32 → Nat → Nat → Nat → Nat → Nat → Int32 → Int32 → Option (Int32 × gH)} (hkb4 : kb4 + 9458 ≤ 28374) (hnb4 : nb4 + 56546 ≤ 169638) (hkb247 : kb247 + 313 ≤ kb4 + 9261) (hnb247 : nb247 + 1527 ≤ nb4 + 55363) (hK4 : ∀ (h : gH) (l1 : Int32) (l2 : Int32), GX l G M_L_law (g_phS Q Z) (kb4 + 9458) (nb4 + 56546) 4 [some (.ref b), some (.int l1), some (.int l2), none, none, none, none, none, none, none, none, none, none, none, none, none, none, none, none, none, none, none, none, none, none] [] h (K4 h l1 l2)) (hK247 : ∀ (h : gH) (l1 : Int32) (l2 : Int32) (l3 : Nat) (l4 : Nat) (l5 : Nat) (l6 : Nat) (l7 : Nat) (l8 : Int32) (l9 : Int32), GX l G M_L_law (g_phS Q Z) (kb247 + 313) (nb247 + 1527) 247 [some (.ref b), some (.int l1), some (.int l2), some (.ref l3), some (.ref l4), some (.ref l5), some (.ref l6), some (.ref l7), some (.int l8), some (.int l9), none, none, none, none, none, none, none, none, none, none, none, none, none, none, none] [] h (K247 h l1 l2 l3 l4 l5 l6 l7 l8 l9)) (h : gH) (l2 : Int32) (l3 : Nat) (l4 : Nat) (l5 : Nat) (l6 : Nat) (l7 : Nat) (l8 : Int32) (l9 : Int32) (l10 : Nat) (l11 : Int32) : GX l G M_L_law (g_phS Q Z) (kb247 + 294) (nb247 + 1413) 497 [some (.ref b), none, some (.int l2), some (.ref l3), some (.ref l4), some (.ref l5), some (.ref l6), some (.ref l7), some (.int l8), some (.int l9), some (.ref l10), some (.int l11), none, none, none, none, none, none, none, none, none, none, none, none, none] [] h (f_L_law_b497 G xs N K4 K247 h l2 l3 l4 l5 l6 l7 l8 l9 l10 l11) := by
  unfold f_L_law_b497
  refine X_iconst (v := 0) rfl rfl (by decide) ?_
  exact X_sub (g_sub_s (g_sub_n (g_sub_s (g_sub_s (g_sub_s (g_sub_s (g_sub_s (g_sub_s (g_sub_s (g_sub_s (g_sub_s (g_sub_s (g_sub_n (g_sub_n (g_sub_n (g_sub_n (g_sub_n (g_sub_n (g_sub_n (g_sub_n (g_sub_n (g_sub_n (g_sub_n (g_sub_n (g_sub_n g_sub_0))))))))))))))))))))))))) (b_L_law_b498 hl hX hret hkb4 hnb4 hkb247 hnb247 hK4 hK247 _ _ _ _ _ _ _ _ _ _ _ _)
set_option maxRecDepth 100000 in
theorem b_L_law_b473 {l : Launch} {G : gG} (hl : l.stackTraces = false) {Q : State → Array Value → List Frame → Prop} {Z : State → Prop} {b N : Nat} {xs : Nat → Int32} (hX : g_scr G Q b N xs) (hret : ∀ (pc : Nat) (L : List (Option Value)) (h : gH) (k n : Nat) (v : Int32), decode code pc = .ok (.ireturn, 1) → k ≤ 600086 → n ≤ 7301442 → GX l G M_L_law (g_phS Q Z) k n pc L [.int v] h (some (v, h))) {kb4 nb4 : Nat} {kb247 nb247 : Nat} {K4 : gH → Int32 → Int32 → Option (Int32 × gH)} {K247 : gH → Int32 → Int32 → Nat → Nat → Nat → Nat → Nat → Int32 → Int32 → Option (Int32 × gH)} (hkb4 : kb4 + 9458 ≤ 28374) (hnb4 : nb4 + 56546 ≤ 169638) (hkb247 : kb247 + 313 ≤ kb4 + 9261) (hnb247 : nb247 + 1527 ≤ nb4 + 55363) (hK4 : ∀ (h : gH) (l1 : Int32) (l2 : Int32), GX l G M_L_law (g_phS Q Z) (kb4 + 9458) (nb4 + 56546) 4 [some (.ref b), some (.int l1), some (.int l2), none, none, none, none, none, none, none, none, none, none, none, none, none, none, none, none, none, none, none, none, none, none] [] h (K4 h l1 l2)) (hK247 : ∀ (h : gH) (l1 : Int32) (l2 : Int32) (l3 : Nat) (l4 : Nat) (l5 : Nat) (l6 : Nat) (l7 : Nat) (l8 : Int32) (l9 : Int32), GX l G M_L_law (g_phS Q Z) (kb247 + 313) (nb247 + 1527) 247 [some (.ref b), some (.int l1), some (.int l2), some (.ref l3), some (.ref l4), some (.ref l5), some (.ref l6), some (.ref l7), some (.int l8), some (.int l9), none, none, none, none, none, none, none, none, none, none, none, none, none, none, none] [] h (K247 h l1 l2 l3 l4 l5 l6 l7 l8 l9)) (h : gH) (l2 : Int32) (l3 : Nat) (l4 : Nat) (l5 : Nat) (l6 : Nat) (l7 : Nat) (l8 : Int32) (l9 : Int32) (l10 : Nat) (l11 : Int32) (s0 : Int32) : GX l G M_L_law (g_phS Q Z) (kb247 + 293) (nb247 + 1406) 473 [some (.ref b), none, some (.int l2), some (.ref l3), some (.ref l4), some (.ref l5), some (.ref l6), some (.ref l7), some (.int l8), some (.int l9), some (.ref l10), some (.int l11), none, none, none, none, none, none, none, none, none, none, none, none, none] [.int s0] h (f_L_law_b473 G xs N K4 K247 h l2 l3 l4 l5 l6 l7 l8 l9 l10 l11 s0) := by
  unfold f_L_law_b473
  refine X_istore_n rfl rfl rfl rfl ?_
  refine X_iload rfl rfl rfl ?_
  refine X_bif_ne rfl rfl (fun _ => ?_) (fun _ => ?_)
  · refine X_iload_n rfl rfl rfl ?_
    refine X_bif_eq rfl rfl (fun _ => ?_) (fun _ => ?_)
    · refine X_wid (k' := kb247 + 294) (n' := nb247 + 1413) (by omega) (by omega) ?_
      exact X_sub (g_sub_s (g_sub_n (g_sub_s (g_sub_s (g_sub_s (g_sub_s (g_sub_s (g_sub_s (g_sub_s (g_sub_s (g_sub_s (g_sub_s (g_sub_n (g_sub_n (g_sub_n (g_sub_n (g_sub_n (g_sub_n (g_sub_n (g_sub_n (g_sub_n (g_sub_n (g_sub_n (g_sub_n (g_sub_n g_sub_0))))))))))))))))))))))))) (b_L_law_b497 hl hX hret hkb4 hnb4 hkb247 hnb247 hK4 hK247 _ _ _ _ _ _ _ _ _ _ _)
    · refine X_aload_n rfl rfl rfl ?_
      refine X_iconst (v := 0) rfl rfl (by decide) ?_
      refine X_kY_I (k1 := kb247 + 294) (n1 := nb247 + 1413) (M' := M_L_load) (nA := 2) (As := [.ref l3, .int 0]) (st := []) rfl rfl (by decide +kernel) rfl rfl rfl (by show kb247 + 293 + 1 = kb247 + 294; omega) (by show nb247 + 1406 + 7 = nb247 + 1413; omega) (X_ble (by show kb247 + 294 ≤ 600086; omega)) (X_ble (by show nb247 + 1413 ≤ 7301442; omega)) (fun _ _ e => cy_L_load hl  e) (fun y485 => ?_)
      refine X_bipush (v := -2) rfl rfl (by decide) ?_
      refine X_bicmp_ne rfl rfl (fun _ => ?_) (fun _ => ?_)
      · refine X_iconst (v := 1) rfl rfl (by decide) ?_
        refine X_goto rfl rfl ?_
        exact X_sub (g_sub_s (g_sub_n (g_sub_s (g_sub_s (g_sub_s (g_sub_s (g_sub_s (g_sub_s (g_sub_s (g_sub_s (g_sub_s (g_sub_s (g_sub_n (g_sub_n (g_sub_n (g_sub_n (g_sub_n (g_sub_n (g_sub_n (g_sub_n (g_sub_n (g_sub_n (g_sub_n (g_sub_n (g_sub_n g_sub_0))))))))))))))))))))))))) (b_L_law_b498 hl hX hret hkb4 hnb4 hkb247 hnb247 hK4 hK247 _ _ _ _ _ _ _ _ _ _ _ _)
      · exact X_sub (g_sub_s (g_sub_n (g_sub_s (g_sub_s (g_sub_s (g_sub_s (g_sub_s (g_sub_s (g_sub_s (g_sub_s (g_sub_s (g_sub_s (g_sub_n (g_sub_n (g_sub_n (g_sub_n (g_sub_n (g_sub_n (g_sub_n (g_sub_n (g_sub_n (g_sub_n (g_sub_n (g_sub_n (g_sub_n g_sub_0))))))))))))))))))))))))) (b_L_law_b497 hl hX hret hkb4 hnb4 hkb247 hnb247 hK4 hK247 _ _ _ _ _ _ _ _ _ _ _)
  · refine X_wid (k' := kb247 + 294) (n' := nb247 + 1413) (by omega) (by omega) ?_
    exact X_sub (g_sub_s (g_sub_s (g_sub_s (g_sub_s (g_sub_s (g_sub_s (g_sub_s (g_sub_s (g_sub_s (g_sub_s (g_sub_s (g_sub_s (g_sub_n (g_sub_n (g_sub_n (g_sub_n (g_sub_n (g_sub_n (g_sub_n (g_sub_n (g_sub_n (g_sub_n (g_sub_n (g_sub_n (g_sub_n g_sub_0))))))))))))))))))))))))) (b_L_law_b1159 hl hX hret hkb4 hnb4 hkb247 hnb247 hK4 hK247 hK345 _ _ _ _ _ _ _ _ _ _ _ _)
set_option maxRecDepth 100000 in
theorem b_L_law_b465 {l : Launch} {G : gG} (hl : l.stackTraces = false) {Q : State → Array Value → List Frame → Prop} {Z : State → Prop} {b N : Nat} {xs : Nat → Int32} (hX : g_scr G Q b N xs) (hret : ∀ (pc : Nat) (L : List (Option Value)) (h : gH) (k n : Nat) (v : Int32), decode code pc = .ok (.ireturn, 1) → k ≤ 600086 → n ≤ 7301442 → GX l G M_L_law (g_phS Q Z) k n pc L [.int v] h (some (v, h))) {kb4 nb4 : Nat} {kb247 nb247 : Nat} {K4 : gH → Int32 → Int32 → Option (Int32 × gH)} {K247 : gH → Int32 → Int32 → Nat → Nat → Nat → Nat → Nat → Int32 → Int32 → Option (Int32 × gH)} (hkb4 : kb4 + 9458 ≤ 28374) (hnb4 : nb4 + 56546 ≤ 169638) (hkb247 : kb247 + 313 ≤ kb4 + 9261) (hnb247 : nb247 + 1527 ≤ nb4 + 55363) (hK4 : ∀ (h : gH) (l1 : Int32) (l2 : Int32), GX l G M_L_law (g_phS Q Z) (kb4 + 9458) (nb4 + 56546) 4 [some (.ref b), some (.int l1), some (.int l2), none, none, none, none, none, none, none, none, none, none, none, none, none, none, none, none, none, none, none, none, none, none] [] h (K4 h l1 l2)) (hK247 : ∀ (h : gH) (l1 : Int32) (l2 : Int32) (l3 : Nat) (l4 : Nat) (l5 : Nat) (l6 : Nat) (l7 : Nat) (l8 : Int32) (l9 : Int32), GX l G M_L_law (g_phS Q Z) (kb247 + 313) (nb247 + 1527) 247 [some (.ref b), some (.int l1), some (.int l2), some (.ref l3), some (.ref l4), some (.ref l5), some (.ref l6), some (.ref l7), some (.int l8), some (.int l9), none, none, none, none, none, none, none, none, none, none, none, none, none, none, none] [] h (K247 h l1 l2 l3 l4 l5 l6 l7 l8 l9)) (h : gH) (l2 : Int32) (l3 : Nat) (l4 : Nat) (l5 : Nat) (l6 : Nat) (l7 : Nat) (l8 : Int32) (l9 : Int32) (l10 : Nat) (l11 : Int32) (s0 : Int32) (s1 : Int32) : GX l G M_L_law (g_phS Q Z) (kb247 + 293) (nb247 + 1406) 465 [some (.ref b), none, some (.int l2), some (.ref l3), some (.ref l4), some (.ref l5), some (.ref l6), some (.ref l7), some (.int l8), some (.int l9), some (.ref l10), some (.int l11), none, none, none, none, none, none, none, none, none, none, none, none, none] [.int s0, .int s1] h (f_L_law_b465 G xs N K4 K247 h l2 l3 l4 l5 l6 l7 l8 l9 l10 l11 s0 s1) := by
  unfold f_L_law_b465
  refine X_bicmp_ne rfl rfl (fun _ => ?_) (fun _ => ?_)
  · refine X_iconst (v := 1) rfl rfl (by decide) ?_
    refine X_goto rfl rfl ?_
    exact X_sub (g_sub_s (g_sub_n (g_sub_s (g_sub_s (g_sub_s (g_sub_s (g_sub_s (g_sub_s (g_sub_s (g_sub_s (g_sub_s (g_sub_s (g_sub_n (g_sub_n (g_sub_n (g_sub_n (g_sub_n (g_sub_n (g_sub_n (g_sub_n (g_sub_n (g_sub_n (g_sub_n (g_sub_n (g_sub_n g_sub_0))))))))))))))))))))))))) (b_L_law_b473 hl hX hret hkb4 hnb4 hkb247 hnb247 hK4 hK247 _ _ _ _ _ _ _ _ _ _ _ _)
  · refine X_iconst (v := 0) rfl rfl (by decide) ?_
    exact X_sub (g_sub_s (g_sub_n (g_sub_s (g_sub_s (g_sub_s (g_sub_s (g_sub_s (g_sub_s (g_sub_s (g_sub_s (g_sub_s (g_sub_s (g_sub_n (g_sub_n (g_sub_n (g_sub_n (g_sub_n (g_sub_n (g_sub_n (g_sub_n (g_sub_n (g_sub_n (g_sub_n (g_sub_n (g_sub_n g_sub_0))))))))))))))))))))))))) (b_L_law_b473 hl hX hret hkb4 hnb4 hkb247 hnb247 hK4 hK247 _ _ _ _ _ _ _ _ _ _ _ _)
set_option maxRecDepth 100000 in
theorem b_L_law_b432 {l : Launch} {G : gG} (hl : l.stackTraces = false) {Q : State → Array Value → List Frame → Prop} {Z : State → Prop} {b N : Nat} {xs : Nat → Int32} (hX : g_scr G Q b N xs) (hret : ∀ (pc : Nat) (L : List (Option Value)) (h : gH) (k n : Nat) (v : Int32), decode code pc = .ok (.ireturn, 1) → k ≤ 600086 → n ≤ 7301442 → GX l G M_L_law (g_phS Q Z) k n pc L [.int v] h (some (v, h))) {kb4 nb4 : Nat} {kb247 nb247 : Nat} {K4 : gH → Int32 → Int32 → Option (Int32 × gH)} {K247 : gH → Int32 → Int32 → Nat → Nat → Nat → Nat → Nat → Int32 → Int32 → Option (Int32 × gH)} (hkb4 : kb4 + 9458 ≤ 28374) (hnb4 : nb4 + 56546 ≤ 169638) (hkb247 : kb247 + 313 ≤ kb4 + 9261) (hnb247 : nb247 + 1527 ≤ nb4 + 55363) (hK4 : ∀ (h : gH) (l1 : Int32) (l2 : Int32), GX l G M_L_law (g_phS Q Z) (kb4 + 9458) (nb4 + 56546) 4 [some (.ref b), some (.int l1), some (.int l2), none, none, none, none, none, none, none, none, none, none, none, none, none, none, none, none, none, none, none, none, none, none] [] h (K4 h l1 l2)) (hK247 : ∀ (h : gH) (l1 : Int32) (l2 : Int32) (l3 : Nat) (l4 : Nat) (l5 : Nat) (l6 : Nat) (l7 : Nat) (l8 : Int32) (l9 : Int32), GX l G M_L_law (g_phS Q Z) (kb247 + 313) (nb247 + 1527) 247 [some (.ref b), some (.int l1), some (.int l2), some (.ref l3), some (.ref l4), some (.ref l5), some (.ref l6), some (.ref l7), some (.int l8), some (.int l9), none, none, none, none, none, none, none, none, none, none, none, none, none, none, none] [] h (K247 h l1 l2 l3 l4 l5 l6 l7 l8 l9)) (h : gH) (l2 : Int32) (l3 : Nat) (l4 : Nat) (l5 : Nat) (l6 : Nat) (l7 : Nat) (l8 : Int32) (l9 : Int32) (l10 : Nat) (l11 : Int32) (l12 : Int32) (l15 : Nat) : GX l G M_L_law (g_phS Q Z) (kb247 + 292) (nb247 + 1400) 432 [some (.ref b), none, some (.int l2), some (.ref l3), some (.ref l4), some (.ref l5), some (.ref l6), some (.ref l7), some (.int l8), some (.int l9), some (.ref l10), some (.int l11), some (.int l12), none, none, some (.ref l15), none, none, none, none, none, none, none, none, none] [] h (f_L_law_b432 G xs N K4 K247 h l2 l3 l4 l5 l6 l7 l8 l9 l10 l11 l12 l15) := by
  unfold f_L_law_b432
  refine X_aload_n rfl rfl rfl ?_
  refine X_aload rfl rfl rfl ?_
  refine X_aload rfl rfl rfl ?_
  refine X_iload rfl rfl rfl ?_
  refine X_iload rfl rfl rfl ?_
  refine X_bipush (v := 10) rfl rfl (by decide) ?_
  refine X_irem (v := g_rem l9 10) rfl rfl rfl (by decide) ?_
  refine X_kS_I (k1 := kb247 + 293) (n1 := nb247 + 1406) (M' := M_L_sendText) (nA := 5) (As := [.ref l3, .ref l4, .ref l15, .int l12, .int (g_rem l9 10)]) (st := []) rfl rfl (by decide +kernel) rfl rfl rfl (by show kb247 + 292 + 1 = kb247 + 293; omega) (by show nb247 + 1400 + 6 = nb247 + 1406; omega) (X_ble (by show kb247 + 293 ≤ 600086; omega)) (X_ble (by show nb247 + 1406 ≤ 7301442; omega)) (fun _ _ e => ct_L_sendText hl  e) (fun y444 => ?_)
  refine X_iload rfl rfl rfl ?_
  refine X_bif_eq rfl rfl (fun _ => ?_) (fun _ => ?_)
  · refine X_ldc (v := -2000000099) rfl rfl (by decide +kernel) ?_
    exact X_sub (g_sub_s (g_sub_n (g_sub_s (g_sub_s (g_sub_s (g_sub_s (g_sub_s (g_sub_s (g_sub_s (g_sub_s (g_sub_s (g_sub_s (g_sub_n (g_sub_n (g_sub_n (g_sub_n (g_sub_n (g_sub_n (g_sub_n (g_sub_n (g_sub_n (g_sub_n (g_sub_n (g_sub_n (g_sub_n g_sub_0))))))))))))))))))))))))) (b_L_law_b465 hl hX hret hkb4 hnb4 hkb247 hnb247 hK4 hK247 _ _ _ _ _ _ _ _ _ _ _ _ _)
  · refine X_aload rfl rfl rfl ?_
    refine X_getA rfl rfl (fun v454 => ?_)
    refine X_aln rfl rfl (fun v457 => ?_)
    refine X_iconst (v := 1) rfl rfl (by decide) ?_
    refine X_isub rfl rfl ?_
    refine X_goto rfl rfl ?_
    exact X_sub (g_sub_s (g_sub_n (g_sub_s (g_sub_s (g_sub_s (g_sub_s (g_sub_s (g_sub_s (g_sub_s (g_sub_s (g_sub_s (g_sub_s (g_sub_n (g_sub_n (g_sub_n (g_sub_n (g_sub_n (g_sub_n (g_sub_n (g_sub_n (g_sub_n (g_sub_n (g_sub_n (g_sub_n (g_sub_n g_sub_0))))))))))))))))))))))))) (b_L_law_b465 hl hX hret hkb4 hnb4 hkb247 hnb247 hK4 hK247 _ _ _ _ _ _ _ _ _ _ _ _ _)
set_option maxRecDepth 100000 in
theorem b_L_law_b411 {l : Launch} {G : gG} (hl : l.stackTraces = false) {Q : State → Array Value → List Frame → Prop} {Z : State → Prop} {b N : Nat} {xs : Nat → Int32} (hX : g_scr G Q b N xs) (hret : ∀ (pc : Nat) (L : List (Option Value)) (h : gH) (k n : Nat) (v : Int32), decode code pc = .ok (.ireturn, 1) → k ≤ 600086 → n ≤ 7301442 → GX l G M_L_law (g_phS Q Z) k n pc L [.int v] h (some (v, h))) {kb4 nb4 : Nat} {kb247 nb247 : Nat} {K4 : gH → Int32 → Int32 → Option (Int32 × gH)} {K247 : gH → Int32 → Int32 → Nat → Nat → Nat → Nat → Nat → Int32 → Int32 → Option (Int32 × gH)} (hkb4 : kb4 + 9458 ≤ 28374) (hnb4 : nb4 + 56546 ≤ 169638) (hkb247 : kb247 + 313 ≤ kb4 + 9261) (hnb247 : nb247 + 1527 ≤ nb4 + 55363) (hK4 : ∀ (h : gH) (l1 : Int32) (l2 : Int32), GX l G M_L_law (g_phS Q Z) (kb4 + 9458) (nb4 + 56546) 4 [some (.ref b), some (.int l1), some (.int l2), none, none, none, none, none, none, none, none, none, none, none, none, none, none, none, none, none, none, none, none, none, none] [] h (K4 h l1 l2)) (hK247 : ∀ (h : gH) (l1 : Int32) (l2 : Int32) (l3 : Nat) (l4 : Nat) (l5 : Nat) (l6 : Nat) (l7 : Nat) (l8 : Int32) (l9 : Int32), GX l G M_L_law (g_phS Q Z) (kb247 + 313) (nb247 + 1527) 247 [some (.ref b), some (.int l1), some (.int l2), some (.ref l3), some (.ref l4), some (.ref l5), some (.ref l6), some (.ref l7), some (.int l8), some (.int l9), none, none, none, none, none, none, none, none, none, none, none, none, none, none, none] [] h (K247 h l1 l2 l3 l4 l5 l6 l7 l8 l9)) (h : gH) (l2 : Int32) (l3 : Nat) (l4 : Nat) (l5 : Nat) (l6 : Nat) (l7 : Nat) (l8 : Int32) (l9 : Int32) (l10 : Nat) (l12 : Int32) (l15 : Nat) (s0 : Int32) : GX l G M_L_law (g_phS Q Z) (kb247 + 269) (nb247 + 1317) 411 [some (.ref b), none, some (.int l2), some (.ref l3), some (.ref l4), some (.ref l5), some (.ref l6), some (.ref l7), some (.int l8), some (.int l9), some (.ref l10), none, some (.int l12), none, none, some (.ref l15), none, none, none, none, none, none, none, none, none] [.int s0] h (f_L_law_b411 G xs N K4 K247 h l2 l3 l4 l5 l6 l7 l8 l9 l10 l12 l15 s0) := by
  unfold f_L_law_b411
  refine X_istore rfl rfl rfl rfl ?_
  refine X_iload rfl rfl rfl ?_
  refine X_bif_eq rfl rfl (fun _ => ?_) (fun _ => ?_)
  · refine X_wid (k' := kb247 + 292) (n' := nb247 + 1400) (by omega) (by omega) ?_
    exact X_sub (g_sub_s (g_sub_n (g_sub_s (g_sub_s (g_sub_s (g_sub_s (g_sub_s (g_sub_s (g_sub_s (g_sub_s (g_sub_s (g_sub_s (g_sub_s (g_sub_n (g_sub_n (g_sub_s (g_sub_n (g_sub_n (g_sub_n (g_sub_n (g_sub_n (g_sub_n (g_sub_n (g_sub_n (g_sub_n g_sub_0))))))))))))))))))))))))) (b_L_law_b432 hl hX hret hkb4 hnb4 hkb247 hnb247 hK4 hK247 _ _ _ _ _ _ _ _ _ _ _ _ _)
  · refine X_aload rfl rfl rfl ?_
    refine X_iload rfl rfl rfl ?_
    refine X_iload rfl rfl rfl ?_
    refine X_bipush (v := 10) rfl rfl (by decide) ?_
    refine X_irem (v := g_rem l9 10) rfl rfl rfl (by decide) ?_
    refine X_aload rfl rfl rfl ?_
    refine X_kV_U (k1 := kb247 + 292) (n1 := nb247 + 1400) (M' := M_X10_adds) (nA := 3) (As := [.int l12, .int (g_rem l9 10), .ref l15]) (st := []) (b := l6) (ci := 10) rfl rfl (by decide +kernel) rfl rfl rfl rfl (by show kb247 + 269 + 23 = kb247 + 292; omega) (by show nb247 + 1317 + 83 = nb247 + 1400; omega) (X_ble (by show kb247 + 292 ≤ 600086; omega)) (X_ble (by show nb247 + 1400 ≤ 7301442; omega)) (fun _ e => ct_X10_adds  e) (fun h429 => ?_)
    exact X_sub (g_sub_s (g_sub_n (g_sub_s (g_sub_s (g_sub_s (g_sub_s (g_sub_s (g_sub_s (g_sub_s (g_sub_s (g_sub_s (g_sub_s (g_sub_s (g_sub_n (g_sub_n (g_sub_s (g_sub_n (g_sub_n (g_sub_n (g_sub_n (g_sub_n (g_sub_n (g_sub_n (g_sub_n (g_sub_n g_sub_0))))))))))))))))))))))))) (b_L_law_b432 hl hX hret hkb4 hnb4 hkb247 hnb247 hK4 hK247 _ _ _ _ _ _ _ _ _ _ _ _ _)
set_option maxRecDepth 100000 in
theorem b_L_law_b636 {l : Launch} {G : gG} (hl : l.stackTraces = false) {Q : State → Array Value → List Frame → Prop} {Z : State → Prop} {b N : Nat} {xs : Nat → Int32} (hX : g_scr G Q b N xs) (hret : ∀ (pc : Nat) (L : List (Option Value)) (h : gH) (k n : Nat) (v : Int32), decode code pc = .ok (.ireturn, 1) → k ≤ 600086 → n ≤ 7301442 → GX l G M_L_law (g_phS Q Z) k n pc L [.int v] h (some (v, h))) {kb4 nb4 : Nat} {kb247 nb247 : Nat} {K4 : gH → Int32 → Int32 → Option (Int32 × gH)} {K247 : gH → Int32 → Int32 → Nat → Nat → Nat → Nat → Nat → Int32 → Int32 → Option (Int32 × gH)} (hkb4 : kb4 + 9458 ≤ 28374) (hnb4 : nb4 + 56546 ≤ 169638) (hkb247 : kb247 + 313 ≤ kb4 + 9261) (hnb247 : nb247 + 1527 ≤ nb4 + 55363) (hK4 : ∀ (h : gH) (l1 : Int32) (l2 : Int32), GX l G M_L_law (g_phS Q Z) (kb4 + 9458) (nb4 + 56546) 4 [some (.ref b), some (.int l1), some (.int l2), none, none, none, none, none, none, none, none, none, none, none, none, none, none, none, none, none, none, none, none, none, none] [] h (K4 h l1 l2)) (hK247 : ∀ (h : gH) (l1 : Int32) (l2 : Int32) (l3 : Nat) (l4 : Nat) (l5 : Nat) (l6 : Nat) (l7 : Nat) (l8 : Int32) (l9 : Int32), GX l G M_L_law (g_phS Q Z) (kb247 + 313) (nb247 + 1527) 247 [some (.ref b), some (.int l1), some (.int l2), some (.ref l3), some (.ref l4), some (.ref l5), some (.ref l6), some (.ref l7), some (.int l8), some (.int l9), none, none, none, none, none, none, none, none, none, none, none, none, none, none, none] [] h (K247 h l1 l2 l3 l4 l5 l6 l7 l8 l9)) (h : gH) (l2 : Int32) (l3 : Nat) (l4 : Nat) (l5 : Nat) (l6 : Nat) (l7 : Nat) (l8 : Int32) (l9 : Int32) (l10 : Nat) (l11 : Int32) (s0 : Int32) : GX l G M_L_law (g_phS Q Z) (kb247 + 220) (nb247 + 826) 636 [some (.ref b), none, some (.int l2), some (.ref l3), some (.ref l4), some (.ref l5), some (.ref l6), some (.ref l7), some (.int l8), some (.int l9), some (.ref l10), some (.int l11), none, none, none, none, none, none, none, none, none, none, none, none, none] [.int s0] h (f_L_law_b636 G xs N K4 K247 h l2 l3 l4 l5 l6 l7 l8 l9 l10 l11 s0) := by
  unfold f_L_law_b636
  refine X_istore_n rfl rfl rfl rfl ?_
  refine X_goto rfl rfl ?_
  refine X_wid (k' := kb247 + 294) (n' := nb247 + 1413) (by omega) (by omega) ?_
  exact X_sub (g_sub_s (g_sub_s (g_sub_s (g_sub_s (g_sub_s (g_sub_s (g_sub_s (g_sub_s (g_sub_s (g_sub_s (g_sub_s (g_sub_s (g_sub_n (g_sub_n (g_sub_n (g_sub_n (g_sub_n (g_sub_n (g_sub_n (g_sub_n (g_sub_n (g_sub_n (g_sub_n (g_sub_n (g_sub_n g_sub_0))))))))))))))))))))))))) (b_L_law_b1159 hl hX hret hkb4 hnb4 hkb247 hnb247 hK4 hK247 hK345 _ _ _ _ _ _ _ _ _ _ _ _)
set_option maxRecDepth 100000 in
theorem b_L_law_b628 {l : Launch} {G : gG} (hl : l.stackTraces = false) {Q : State → Array Value → List Frame → Prop} {Z : State → Prop} {b N : Nat} {xs : Nat → Int32} (hX : g_scr G Q b N xs) (hret : ∀ (pc : Nat) (L : List (Option Value)) (h : gH) (k n : Nat) (v : Int32), decode code pc = .ok (.ireturn, 1) → k ≤ 600086 → n ≤ 7301442 → GX l G M_L_law (g_phS Q Z) k n pc L [.int v] h (some (v, h))) {kb4 nb4 : Nat} {kb247 nb247 : Nat} {K4 : gH → Int32 → Int32 → Option (Int32 × gH)} {K247 : gH → Int32 → Int32 → Nat → Nat → Nat → Nat → Nat → Int32 → Int32 → Option (Int32 × gH)} (hkb4 : kb4 + 9458 ≤ 28374) (hnb4 : nb4 + 56546 ≤ 169638) (hkb247 : kb247 + 313 ≤ kb4 + 9261) (hnb247 : nb247 + 1527 ≤ nb4 + 55363) (hK4 : ∀ (h : gH) (l1 : Int32) (l2 : Int32), GX l G M_L_law (g_phS Q Z) (kb4 + 9458) (nb4 + 56546) 4 [some (.ref b), some (.int l1), some (.int l2), none, none, none, none, none, none, none, none, none, none, none, none, none, none, none, none, none, none, none, none, none, none] [] h (K4 h l1 l2)) (hK247 : ∀ (h : gH) (l1 : Int32) (l2 : Int32) (l3 : Nat) (l4 : Nat) (l5 : Nat) (l6 : Nat) (l7 : Nat) (l8 : Int32) (l9 : Int32), GX l G M_L_law (g_phS Q Z) (kb247 + 313) (nb247 + 1527) 247 [some (.ref b), some (.int l1), some (.int l2), some (.ref l3), some (.ref l4), some (.ref l5), some (.ref l6), some (.ref l7), some (.int l8), some (.int l9), none, none, none, none, none, none, none, none, none, none, none, none, none, none, none] [] h (K247 h l1 l2 l3 l4 l5 l6 l7 l8 l9)) (h : gH) (l2 : Int32) (l3 : Nat) (l4 : Nat) (l5 : Nat) (l6 : Nat) (l7 : Nat) (l8 : Int32) (l9 : Int32) (l10 : Nat) (l11 : Int32) (s0 : Int32) (s1 : Int32) : GX l G M_L_law (g_phS Q Z) (kb247 + 220) (nb247 + 826) 628 [some (.ref b), none, some (.int l2), some (.ref l3), some (.ref l4), some (.ref l5), some (.ref l6), some (.ref l7), some (.int l8), some (.int l9), some (.ref l10), some (.int l11), none, none, none, none, none, none, none, none, none, none, none, none, none] [.int s0, .int s1] h (f_L_law_b628 G xs N K4 K247 h l2 l3 l4 l5 l6 l7 l8 l9 l10 l11 s0 s1) := by
  unfold f_L_law_b628
  refine X_bicmp_ne rfl rfl (fun _ => ?_) (fun _ => ?_)
  · refine X_iconst (v := 1) rfl rfl (by decide) ?_
    refine X_goto rfl rfl ?_
    exact X_sub (g_sub_s (g_sub_n (g_sub_s (g_sub_s (g_sub_s (g_sub_s (g_sub_s (g_sub_s (g_sub_s (g_sub_s (g_sub_s (g_sub_s (g_sub_n (g_sub_n (g_sub_n (g_sub_n (g_sub_n (g_sub_n (g_sub_n (g_sub_n (g_sub_n (g_sub_n (g_sub_n (g_sub_n (g_sub_n g_sub_0))))))))))))))))))))))))) (b_L_law_b636 hl hX hret hkb4 hnb4 hkb247 hnb247 hK4 hK247 _ _ _ _ _ _ _ _ _ _ _ _)
  · refine X_iconst (v := 0) rfl rfl (by decide) ?_
    exact X_sub (g_sub_s (g_sub_n (g_sub_s (g_sub_s (g_sub_s (g_sub_s (g_sub_s (g_sub_s (g_sub_s (g_sub_s (g_sub_s (g_sub_s (g_sub_n (g_sub_n (g_sub_n (g_sub_n (g_sub_n (g_sub_n (g_sub_n (g_sub_n (g_sub_n (g_sub_n (g_sub_n (g_sub_n (g_sub_n g_sub_0))))))))))))))))))))))))) (b_L_law_b636 hl hX hret hkb4 hnb4 hkb247 hnb247 hK4 hK247 _ _ _ _ _ _ _ _ _ _ _ _)
set_option maxRecDepth 100000 in
theorem b_L_law_b581 {l : Launch} {G : gG} (hl : l.stackTraces = false) {Q : State → Array Value → List Frame → Prop} {Z : State → Prop} {b N : Nat} {xs : Nat → Int32} (hX : g_scr G Q b N xs) (hret : ∀ (pc : Nat) (L : List (Option Value)) (h : gH) (k n : Nat) (v : Int32), decode code pc = .ok (.ireturn, 1) → k ≤ 600086 → n ≤ 7301442 → GX l G M_L_law (g_phS Q Z) k n pc L [.int v] h (some (v, h))) {kb4 nb4 : Nat} {kb247 nb247 : Nat} {K4 : gH → Int32 → Int32 → Option (Int32 × gH)} {K247 : gH → Int32 → Int32 → Nat → Nat → Nat → Nat → Nat → Int32 → Int32 → Option (Int32 × gH)} (hkb4 : kb4 + 9458 ≤ 28374) (hnb4 : nb4 + 56546 ≤ 169638) (hkb247 : kb247 + 313 ≤ kb4 + 9261) (hnb247 : nb247 + 1527 ≤ nb4 + 55363) (hK4 : ∀ (h : gH) (l1 : Int32) (l2 : Int32), GX l G M_L_law (g_phS Q Z) (kb4 + 9458) (nb4 + 56546) 4 [some (.ref b), some (.int l1), some (.int l2), none, none, none, none, none, none, none, none, none, none, none, none, none, none, none, none, none, none, none, none, none, none] [] h (K4 h l1 l2)) (hK247 : ∀ (h : gH) (l1 : Int32) (l2 : Int32) (l3 : Nat) (l4 : Nat) (l5 : Nat) (l6 : Nat) (l7 : Nat) (l8 : Int32) (l9 : Int32), GX l G M_L_law (g_phS Q Z) (kb247 + 313) (nb247 + 1527) 247 [some (.ref b), some (.int l1), some (.int l2), some (.ref l3), some (.ref l4), some (.ref l5), some (.ref l6), some (.ref l7), some (.int l8), some (.int l9), none, none, none, none, none, none, none, none, none, none, none, none, none, none, none] [] h (K247 h l1 l2 l3 l4 l5 l6 l7 l8 l9)) (h : gH) (l2 : Int32) (l3 : Nat) (l4 : Nat) (l5 : Nat) (l6 : Nat) (l7 : Nat) (l8 : Int32) (l9 : Int32) (l10 : Nat) (l11 : Int32) (l16 : Int32) : GX l G M_L_law (g_phS Q Z) (kb247 + 219) (nb247 + 820) 581 [some (.ref b), none, some (.int l2), some (.ref l3), some (.ref l4), some (.ref l5), some (.ref l6), some (.ref l7), some (.int l8), some (.int l9), some (.ref l10), some (.int l11), none, none, none, none, some (.int l16), none, none, none, none, none, none, none, none] [] h (f_L_law_b581 G xs N K4 K247 h l2 l3 l4 l5 l6 l7 l8 l9 l10 l11 l16) := by
  unfold f_L_law_b581
  refine X_aload_n rfl rfl rfl ?_
  refine X_aload rfl rfl rfl ?_
  refine X_getI rfl rfl (fun v584 => ?_)
  refine X_aload rfl rfl rfl ?_
  refine X_getI rfl rfl (fun v589 => ?_)
  refine X_bipush (v := 9) rfl rfl (by decide) ?_
  refine X_iadd rfl rfl ?_
  refine X_iload rfl rfl rfl ?_
  refine X_kY_I (k1 := kb247 + 220) (n1 := nb247 + 826) (M' := M_L_fog) (nA := 4) (As := [.ref l3, .int v584, .int (v589 + 9), .int l16]) (st := []) rfl rfl (by decide +kernel) rfl rfl rfl (by show kb247 + 219 + 1 = kb247 + 220; omega) (by show nb247 + 820 + 6 = nb247 + 826; omega) (X_ble (by show kb247 + 220 ≤ 600086; omega)) (X_ble (by show nb247 + 826 ≤ 7301442; omega)) (fun _ _ e => cy_L_fog hl  e) (fun y597 => ?_)
  refine X_iload rfl rfl rfl ?_
  refine X_bif_eq rfl rfl (fun _ => ?_) (fun _ => ?_)
  · refine X_iload rfl rfl rfl ?_
    refine X_bipush (v := 9) rfl rfl (by decide) ?_
    refine X_bicmp_le rfl rfl (fun _ => ?_) (fun _ => ?_)
    · refine X_ldc (v := -2000000098) rfl rfl (by decide +kernel) ?_
      refine X_goto rfl rfl ?_
      exact X_sub (g_sub_s (g_sub_n (g_sub_s (g_sub_s (g_sub_s (g_sub_s (g_sub_s (g_sub_s (g_sub_s (g_sub_s (g_sub_s (g_sub_s (g_sub_n (g_sub_n (g_sub_n (g_sub_n (g_sub_n (g_sub_n (g_sub_n (g_sub_n (g_sub_n (g_sub_n (g_sub_n (g_sub_n (g_sub_n g_sub_0))))))))))))))))))))))))) (b_L_law_b628 hl hX hret hkb4 hnb4 hkb247 hnb247 hK4 hK247 _ _ _ _ _ _ _ _ _ _ _ _ _)
    · refine X_ldc (v := -2000000099) rfl rfl (by decide +kernel) ?_
      exact X_sub (g_sub_s (g_sub_n (g_sub_s (g_sub_s (g_sub_s (g_sub_s (g_sub_s (g_sub_s (g_sub_s (g_sub_s (g_sub_s (g_sub_s (g_sub_n (g_sub_n (g_sub_n (g_sub_n (g_sub_n (g_sub_n (g_sub_n (g_sub_n (g_sub_n (g_sub_n (g_sub_n (g_sub_n (g_sub_n g_sub_0))))))))))))))))))))))))) (b_L_law_b628 hl hX hret hkb4 hnb4 hkb247 hnb247 hK4 hK247 _ _ _ _ _ _ _ _ _ _ _ _ _)
  · refine X_aload rfl rfl rfl ?_
    refine X_getA rfl rfl (fun v607 => ?_)
    refine X_aln rfl rfl (fun v610 => ?_)
    refine X_goto rfl rfl ?_
    exact X_sub (g_sub_s (g_sub_n (g_sub_s (g_sub_s (g_sub_s (g_sub_s (g_sub_s (g_sub_s (g_sub_s (g_sub_s (g_sub_s (g_sub_s (g_sub_n (g_sub_n (g_sub_n (g_sub_n (g_sub_n (g_sub_n (g_sub_n (g_sub_n (g_sub_n (g_sub_n (g_sub_n (g_sub_n (g_sub_n g_sub_0))))))))))))))))))))))))) (b_L_law_b628 hl hX hret hkb4 hnb4 hkb247 hnb247 hK4 hK247 _ _ _ _ _ _ _ _ _ _ _ _ _)
set_option maxRecDepth 100000 in
theorem b_L_law_b534 {l : Launch} {G : gG} (hl : l.stackTraces = false) {Q : State → Array Value → List Frame → Prop} {Z : State → Prop} {b N : Nat} {xs : Nat → Int32} (hX : g_scr G Q b N xs) (hret : ∀ (pc : Nat) (L : List (Option Value)) (h : gH) (k n : Nat) (v : Int32), decode code pc = .ok (.ireturn, 1) → k ≤ 600086 → n ≤ 7301442 → GX l G M_L_law (g_phS Q Z) k n pc L [.int v] h (some (v, h))) {kb4 nb4 : Nat} {kb247 nb247 : Nat} {K4 : gH → Int32 → Int32 → Option (Int32 × gH)} {K247 : gH → Int32 → Int32 → Nat → Nat → Nat → Nat → Nat → Int32 → Int32 → Option (Int32 × gH)} (hkb4 : kb4 + 9458 ≤ 28374) (hnb4 : nb4 + 56546 ≤ 169638) (hkb247 : kb247 + 313 ≤ kb4 + 9261) (hnb247 : nb247 + 1527 ≤ nb4 + 55363) (hK4 : ∀ (h : gH) (l1 : Int32) (l2 : Int32), GX l G M_L_law (g_phS Q Z) (kb4 + 9458) (nb4 + 56546) 4 [some (.ref b), some (.int l1), some (.int l2), none, none, none, none, none, none, none, none, none, none, none, none, none, none, none, none, none, none, none, none, none, none] [] h (K4 h l1 l2)) (hK247 : ∀ (h : gH) (l1 : Int32) (l2 : Int32) (l3 : Nat) (l4 : Nat) (l5 : Nat) (l6 : Nat) (l7 : Nat) (l8 : Int32) (l9 : Int32), GX l G M_L_law (g_phS Q Z) (kb247 + 313) (nb247 + 1527) 247 [some (.ref b), some (.int l1), some (.int l2), some (.ref l3), some (.ref l4), some (.ref l5), some (.ref l6), some (.ref l7), some (.int l8), some (.int l9), none, none, none, none, none, none, none, none, none, none, none, none, none, none, none] [] h (K247 h l1 l2 l3 l4 l5 l6 l7 l8 l9)) (h : gH) (l2 : Int32) (l3 : Nat) (l4 : Nat) (l5 : Nat) (l6 : Nat) (l7 : Nat) (l8 : Int32) (l9 : Int32) (l10 : Nat) (l16 : Int32) (s0 : Int32) : GX l G M_L_law (g_phS Q Z) (kb247 + 217) (nb247 + 797) 534 [some (.ref b), none, some (.int l2), some (.ref l3), some (.ref l4), some (.ref l5), some (.ref l6), some (.ref l7), some (.int l8), some (.int l9), some (.ref l10), none, none, none, none, none, some (.int l16), none, none, none, none, none, none, none, none] [.int s0] h (f_L_law_b534 G xs N K4 K247 h l2 l3 l4 l5 l6 l7 l8 l9 l10 l16 s0) := by
  unfold f_L_law_b534
  refine X_istore rfl rfl rfl rfl ?_
  refine X_iload rfl rfl rfl ?_
  refine X_bif_eq rfl rfl (fun _ => ?_) (fun _ => ?_)
  · refine X_wid (k' := kb247 + 219) (n' := nb247 + 820) (by omega) (by omega) ?_
    exact X_sub (g_sub_s (g_sub_n (g_sub_s (g_sub_s (g_sub_s (g_sub_s (g_sub_s (g_sub_s (g_sub_s (g_sub_s (g_sub_s (g_sub_s (g_sub_n (g_sub_n (g_sub_n (g_sub_n (g_sub_s (g_sub_n (g_sub_n (g_sub_n (g_sub_n (g_sub_n (g_sub_n (g_sub_n (g_sub_n g_sub_0))))))))))))))))))))))))) (b_L_law_b581 hl hX hret hkb4 hnb4 hkb247 hnb247 hK4 hK247 _ _ _ _ _ _ _ _ _ _ _ _)
  · refine X_aload rfl rfl rfl ?_
    refine X_aload rfl rfl rfl ?_
    refine X_getA rfl rfl (fun v545 => ?_)
    refine X_iconst (v := 3) rfl rfl (by decide) ?_
    refine X_nwI (k1 := kb247 + 218) (n1 := nb247 + 800) (B := 3) rfl rfl (by show kb247 + 217 + 1 = kb247 + 218; omega) (by show nb247 + 797 + 3 = nb247 + 800; omega) rfl (X_ble (by show kb247 + 218 ≤ 600086; omega)) (X_ble (by show nb247 + 800 ≤ 7301442; omega)) (fun h549 => ?_)
    refine X_dup rfl rfl rfl ?_
    refine X_iconst (v := 0) rfl rfl (by decide) ?_
    refine X_aload rfl rfl rfl ?_
    refine X_getI rfl rfl (fun v555 => ?_)
    refine X_ast rfl rfl (fun h558 => ?_)
    refine X_dup rfl rfl rfl ?_
    refine X_iconst (v := 1) rfl rfl (by decide) ?_
    refine X_aload rfl rfl rfl ?_
    refine X_getI rfl rfl (fun v563 => ?_)
    refine X_bipush (v := 9) rfl rfl (by decide) ?_
    refine X_iadd rfl rfl ?_
    refine X_ast rfl rfl (fun h569 => ?_)
    refine X_dup rfl rfl rfl ?_
    refine X_iconst (v := 2) rfl rfl (by decide) ?_
    refine X_iload rfl rfl rfl ?_
    refine X_ast rfl rfl (fun h574 => ?_)
    refine X_kS_A (k1 := kb247 + 219) (n1 := nb247 + 820) (M' := M_L_with) (nA := 2) (As := [.ref v545, .ref h.1]) (st := [.ref l6]) rfl rfl (by decide +kernel) rfl rfl rfl (by show kb247 + 218 + 1 = kb247 + 219; omega) (by show nb247 + 800 + 20 = nb247 + 820; omega) (X_ble (by show kb247 + 219 ≤ 600086; omega)) (X_ble (by show nb247 + 820 ≤ 7301442; omega)) (fun _ _ e => ct_L_with  e) (fun y575 => ?_)
    refine X_put rfl rfl rfl rfl rfl (fun h578 => ?_)
    exact X_sub (g_sub_s (g_sub_n (g_sub_s (g_sub_s (g_sub_s (g_sub_s (g_sub_s (g_sub_s (g_sub_s (g_sub_s (g_sub_s (g_sub_s (g_sub_n (g_sub_n (g_sub_n (g_sub_n (g_sub_s (g_sub_n (g_sub_n (g_sub_n (g_sub_n (g_sub_n (g_sub_n (g_sub_n (g_sub_n g_sub_0))))))))))))))))))))))))) (b_L_law_b581 hl hX hret hkb4 hnb4 hkb247 hnb247 hK4 hK247 _ _ _ _ _ _ _ _ _ _ _ _)
set_option maxRecDepth 100000 in
theorem b_L_law_b533 {l : Launch} {G : gG} (hl : l.stackTraces = false) {Q : State → Array Value → List Frame → Prop} {Z : State → Prop} {b N : Nat} {xs : Nat → Int32} (hX : g_scr G Q b N xs) (hret : ∀ (pc : Nat) (L : List (Option Value)) (h : gH) (k n : Nat) (v : Int32), decode code pc = .ok (.ireturn, 1) → k ≤ 600086 → n ≤ 7301442 → GX l G M_L_law (g_phS Q Z) k n pc L [.int v] h (some (v, h))) {kb4 nb4 : Nat} {kb247 nb247 : Nat} {K4 : gH → Int32 → Int32 → Option (Int32 × gH)} {K247 : gH → Int32 → Int32 → Nat → Nat → Nat → Nat → Nat → Int32 → Int32 → Option (Int32 × gH)} (hkb4 : kb4 + 9458 ≤ 28374) (hnb4 : nb4 + 56546 ≤ 169638) (hkb247 : kb247 + 313 ≤ kb4 + 9261) (hnb247 : nb247 + 1527 ≤ nb4 + 55363) (hK4 : ∀ (h : gH) (l1 : Int32) (l2 : Int32), GX l G M_L_law (g_phS Q Z) (kb4 + 9458) (nb4 + 56546) 4 [some (.ref b), some (.int l1), some (.int l2), none, none, none, none, none, none, none, none, none, none, none, none, none, none, none, none, none, none, none, none, none, none] [] h (K4 h l1 l2)) (hK247 : ∀ (h : gH) (l1 : Int32) (l2 : Int32) (l3 : Nat) (l4 : Nat) (l5 : Nat) (l6 : Nat) (l7 : Nat) (l8 : Int32) (l9 : Int32), GX l G M_L_law (g_phS Q Z) (kb247 + 313) (nb247 + 1527) 247 [some (.ref b), some (.int l1), some (.int l2), some (.ref l3), some (.ref l4), some (.ref l5), some (.ref l6), some (.ref l7), some (.int l8), some (.int l9), none, none, none, none, none, none, none, none, none, none, none, none, none, none, none] [] h (K247 h l1 l2 l3 l4 l5 l6 l7 l8 l9)) (h : gH) (l2 : Int32) (l3 : Nat) (l4 : Nat) (l5 : Nat) (l6 : Nat) (l7 : Nat) (l8 : Int32) (l9 : Int32) (l10 : Nat) (l16 : Int32) : GX l G M_L_law (g_phS Q Z) (kb247 + 217) (nb247 + 797) 533 [some (.ref b), none, some (.int l2), some (.ref l3), some (.ref l4), some (.ref l5), some (.ref l6), some (.ref l7), some (.int l8), some (.int l9), some (.ref l10), none, none, none, none, none, some (.int l16), none, none, none, none, none, none, none, none] [] h (f_L_law_b533 G xs N K4 K247 h l2 l3 l4 l5 l6 l7 l8 l9 l10 l16) := by
  unfold f_L_law_b533
  refine X_iconst (v := 0) rfl rfl (by decide) ?_
  exact X_sub (g_sub_s (g_sub_n (g_sub_s (g_sub_s (g_sub_s (g_sub_s (g_sub_s (g_sub_s (g_sub_s (g_sub_s (g_sub_s (g_sub_n (g_sub_n (g_sub_n (g_sub_n (g_sub_n (g_sub_s (g_sub_n (g_sub_n (g_sub_n (g_sub_n (g_sub_n (g_sub_n (g_sub_n (g_sub_n g_sub_0))))))))))))))))))))))))) (b_L_law_b534 hl hX hret hkb4 hnb4 hkb247 hnb247 hK4 hK247 _ _ _ _ _ _ _ _ _ _ _ _)
set_option maxRecDepth 100000 in
theorem b_L_law_b726 {l : Launch} {G : gG} (hl : l.stackTraces = false) {Q : State → Array Value → List Frame → Prop} {Z : State → Prop} {b N : Nat} {xs : Nat → Int32} (hX : g_scr G Q b N xs) (hret : ∀ (pc : Nat) (L : List (Option Value)) (h : gH) (k n : Nat) (v : Int32), decode code pc = .ok (.ireturn, 1) → k ≤ 600086 → n ≤ 7301442 → GX l G M_L_law (g_phS Q Z) k n pc L [.int v] h (some (v, h))) {kb4 nb4 : Nat} {kb247 nb247 : Nat} {K4 : gH → Int32 → Int32 → Option (Int32 × gH)} {K247 : gH → Int32 → Int32 → Nat → Nat → Nat → Nat → Nat → Int32 → Int32 → Option (Int32 × gH)} {K672 : gH → Int32 → Nat → Nat → Nat → Nat → Nat → Int32 → Int32 → Nat → Int32 → Int32 → Int32 → Int32 → Int32 → Int32 → Option (Int32 × gH)} (hkb4 : kb4 + 9458 ≤ 28374) (hnb4 : nb4 + 56546 ≤ 169638) (hkb247 : kb247 + 313 ≤ kb4 + 9261) (hnb247 : nb247 + 1527 ≤ nb4 + 55363) (hK4 : ∀ (h : gH) (l1 : Int32) (l2 : Int32), GX l G M_L_law (g_phS Q Z) (kb4 + 9458) (nb4 + 56546) 4 [some (.ref b), some (.int l1), some (.int l2), none, none, none, none, none, none, none, none, none, none, none, none, none, none, none, none, none, none, none, none, none, none] [] h (K4 h l1 l2)) (hK247 : ∀ (h : gH) (l1 : Int32) (l2 : Int32) (l3 : Nat) (l4 : Nat) (l5 : Nat) (l6 : Nat) (l7 : Nat) (l8 : Int32) (l9 : Int32), GX l G M_L_law (g_phS Q Z) (kb247 + 313) (nb247 + 1527) 247 [some (.ref b), some (.int l1), some (.int l2), some (.ref l3), some (.ref l4), some (.ref l5), some (.ref l6), some (.ref l7), some (.int l8), some (.int l9), none, none, none, none, none, none, none, none, none, none, none, none, none, none, none] [] h (K247 h l1 l2 l3 l4 l5 l6 l7 l8 l9)) (hK672 : ∀ (h : gH) (l2 : Int32) (l3 : Nat) (l4 : Nat) (l5 : Nat) (l6 : Nat) (l7 : Nat) (l8 : Int32) (l9 : Int32) (l10 : Nat) (l12 : Int32) (l17 : Int32) (l18 : Int32) (l19 : Int32) (l20 : Int32) (l21 : Int32), GX l G M_L_law (g_phS Q Z) (kb247 + 217) (nb247 + 797) 672 [some (.ref b), none, some (.int l2), some (.ref l3), some (.ref l4), some (.ref l5), some (.ref l6), some (.ref l7), some (.int l8), some (.int l9), some (.ref l10), none, some (.int l12), none, none, none, none, some (.int l17), some (.int l18), some (.int l19), some (.int l20), some (.int l21), none, none, none] [] h (K672 h l2 l3 l4 l5 l6 l7 l8 l9 l10 l12 l17 l18 l19 l20 l21)) (h : gH) (l2 : Int32) (l3 : Nat) (l4 : Nat) (l5 : Nat) (l6 : Nat) (l7 : Nat) (l8 : Int32) (l9 : Int32) (l10 : Nat) (l12 : Int32) (l17 : Int32) (l18 : Int32) (l19 : Int32) (l20 : Int32) (l21 : Int32) : GX l G M_L_law (g_phS Q Z) (kb247 + 217) (nb247 + 797) 726 [some (.ref b), none, some (.int l2), some (.ref l3), some (.ref l4), some (.ref l5), some (.ref l6), some (.ref l7), some (.int l8), some (.int l9), some (.ref l10), none, some (.int l12), none, none, none, none, some (.int l17), some (.int l18), some (.int l19), some (.int l20), some (.int l21), none, none, none] [] h (f_L_law_b726 G xs N K4 K247 K672 h l2 l3 l4 l5 l6 l7 l8 l9 l10 l12 l17 l18 l19 l20 l21) := by
  unfold f_L_law_b726
  refine X_iinc (v := l21 + 1) rfl rfl rfl (congrArg (fun z => l21 + z) (by decide : Int32.ofInt 1 = 1)) rfl ?_
  refine X_goto rfl rfl ?_
  exact X_sub (g_sub_s (g_sub_n (g_sub_s (g_sub_s (g_sub_s (g_sub_s (g_sub_s (g_sub_s (g_sub_s (g_sub_s (g_sub_s (g_sub_n (g_sub_s (g_sub_n (g_sub_n (g_sub_n (g_sub_n (g_sub_s (g_sub_s (g_sub_s (g_sub_s (g_sub_s (g_sub_n (g_sub_n (g_sub_n g_sub_0))))))))))))))))))))))))) (hK672 _ _ _ _ _ _ _ _ _ _ _ _ _ _ _ _)
set_option maxRecDepth 100000 in
theorem b_L_law_b882 {l : Launch} {G : gG} (hl : l.stackTraces = false) {Q : State → Array Value → List Frame → Prop} {Z : State → Prop} {b N : Nat} {xs : Nat → Int32} (hX : g_scr G Q b N xs) (hret : ∀ (pc : Nat) (L : List (Option Value)) (h : gH) (k n : Nat) (v : Int32), decode code pc = .ok (.ireturn, 1) → k ≤ 600086 → n ≤ 7301442 → GX l G M_L_law (g_phS Q Z) k n pc L [.int v] h (some (v, h))) {kb4 nb4 : Nat} {kb247 nb247 : Nat} {K4 : gH → Int32 → Int32 → Option (Int32 × gH)} {K247 : gH → Int32 → Int32 → Nat → Nat → Nat → Nat → Nat → Int32 → Int32 → Option (Int32 × gH)} {K672 : gH → Int32 → Nat → Nat → Nat → Nat → Nat → Int32 → Int32 → Nat → Int32 → Int32 → Int32 → Int32 → Int32 → Int32 → Option (Int32 × gH)} (hkb4 : kb4 + 9458 ≤ 28374) (hnb4 : nb4 + 56546 ≤ 169638) (hkb247 : kb247 + 313 ≤ kb4 + 9261) (hnb247 : nb247 + 1527 ≤ nb4 + 55363) (hK4 : ∀ (h : gH) (l1 : Int32) (l2 : Int32), GX l G M_L_law (g_phS Q Z) (kb4 + 9458) (nb4 + 56546) 4 [some (.ref b), some (.int l1), some (.int l2), none, none, none, none, none, none, none, none, none, none, none, none, none, none, none, none, none, none, none, none, none, none] [] h (K4 h l1 l2)) (hK247 : ∀ (h : gH) (l1 : Int32) (l2 : Int32) (l3 : Nat) (l4 : Nat) (l5 : Nat) (l6 : Nat) (l7 : Nat) (l8 : Int32) (l9 : Int32), GX l G M_L_law (g_phS Q Z) (kb247 + 313) (nb247 + 1527) 247 [some (.ref b), some (.int l1), some (.int l2), some (.ref l3), some (.ref l4), some (.ref l5), some (.ref l6), some (.ref l7), some (.int l8), some (.int l9), none, none, none, none, none, none, none, none, none, none, none, none, none, none, none] [] h (K247 h l1 l2 l3 l4 l5 l6 l7 l8 l9)) (hK672 : ∀ (h : gH) (l2 : Int32) (l3 : Nat) (l4 : Nat) (l5 : Nat) (l6 : Nat) (l7 : Nat) (l8 : Int32) (l9 : Int32) (l10 : Nat) (l12 : Int32) (l17 : Int32) (l18 : Int32) (l19 : Int32) (l20 : Int32) (l21 : Int32), GX l G M_L_law (g_phS Q Z) (kb247 + 217) (nb247 + 797) 672 [some (.ref b), none, some (.int l2), some (.ref l3), some (.ref l4), some (.ref l5), some (.ref l6), some (.ref l7), some (.int l8), some (.int l9), some (.ref l10), none, some (.int l12), none, none, none, none, some (.int l17), some (.int l18), some (.int l19), some (.int l20), some (.int l21), none, none, none] [] h (K672 h l2 l3 l4 l5 l6 l7 l8 l9 l10 l12 l17 l18 l19 l20 l21)) (h : gH) (l2 : Int32) (l3 : Nat) (l4 : Nat) (l5 : Nat) (l6 : Nat) (l7 : Nat) (l8 : Int32) (l9 : Int32) (l10 : Nat) (l11 : Int32) (s0 : Int32) : GX l G M_L_law (g_phS Q Z) (kb247 + 241) (nb247 + 1226) 882 [some (.ref b), none, some (.int l2), some (.ref l3), some (.ref l4), some (.ref l5), some (.ref l6), some (.ref l7), some (.int l8), some (.int l9), some (.ref l10), some (.int l11), none, none, none, none, none, none, none, none, none, none, none, none, none] [.int s0] h (f_L_law_b882 G xs N K4 K247 K672 h l2 l3 l4 l5 l6 l7 l8 l9 l10 l11 s0) := by
  unfold f_L_law_b882
  refine X_istore_n rfl rfl rfl rfl ?_
  refine X_goto rfl rfl ?_
  refine X_wid (k' := kb247 + 294) (n' := nb247 + 1413) (by omega) (by omega) ?_
  exact X_sub (g_sub_s (g_sub_s (g_sub_s (g_sub_s (g_sub_s (g_sub_s (g_sub_s (g_sub_s (g_sub_s (g_sub_s (g_sub_s (g_sub_s (g_sub_n (g_sub_n (g_sub_n (g_sub_n (g_sub_n (g_sub_n (g_sub_n (g_sub_n (g_sub_n (g_sub_n (g_sub_n (g_sub_n (g_sub_n g_sub_0))))))))))))))))))))))))) (b_L_law_b1159 hl hX hret hkb4 hnb4 hkb247 hnb247 hK4 hK247 hK345 _ _ _ _ _ _ _ _ _ _ _ _)
set_option maxRecDepth 100000 in
theorem b_L_law_b874 {l : Launch} {G : gG} (hl : l.stackTraces = false) {Q : State → Array Value → List Frame → Prop} {Z : State → Prop} {b N : Nat} {xs : Nat → Int32} (hX : g_scr G Q b N xs) (hret : ∀ (pc : Nat) (L : List (Option Value)) (h : gH) (k n : Nat) (v : Int32), decode code pc = .ok (.ireturn, 1) → k ≤ 600086 → n ≤ 7301442 → GX l G M_L_law (g_phS Q Z) k n pc L [.int v] h (some (v, h))) {kb4 nb4 : Nat} {kb247 nb247 : Nat} {K4 : gH → Int32 → Int32 → Option (Int32 × gH)} {K247 : gH → Int32 → Int32 → Nat → Nat → Nat → Nat → Nat → Int32 → Int32 → Option (Int32 × gH)} {K672 : gH → Int32 → Nat → Nat → Nat → Nat → Nat → Int32 → Int32 → Nat → Int32 → Int32 → Int32 → Int32 → Int32 → Int32 → Option (Int32 × gH)} (hkb4 : kb4 + 9458 ≤ 28374) (hnb4 : nb4 + 56546 ≤ 169638) (hkb247 : kb247 + 313 ≤ kb4 + 9261) (hnb247 : nb247 + 1527 ≤ nb4 + 55363) (hK4 : ∀ (h : gH) (l1 : Int32) (l2 : Int32), GX l G M_L_law (g_phS Q Z) (kb4 + 9458) (nb4 + 56546) 4 [some (.ref b), some (.int l1), some (.int l2), none, none, none, none, none, none, none, none, none, none, none, none, none, none, none, none, none, none, none, none, none, none] [] h (K4 h l1 l2)) (hK247 : ∀ (h : gH) (l1 : Int32) (l2 : Int32) (l3 : Nat) (l4 : Nat) (l5 : Nat) (l6 : Nat) (l7 : Nat) (l8 : Int32) (l9 : Int32), GX l G M_L_law (g_phS Q Z) (kb247 + 313) (nb247 + 1527) 247 [some (.ref b), some (.int l1), some (.int l2), some (.ref l3), some (.ref l4), some (.ref l5), some (.ref l6), some (.ref l7), some (.int l8), some (.int l9), none, none, none, none, none, none, none, none, none, none, none, none, none, none, none] [] h (K247 h l1 l2 l3 l4 l5 l6 l7 l8 l9)) (hK672 : ∀ (h : gH) (l2 : Int32) (l3 : Nat) (l4 : Nat) (l5 : Nat) (l6 : Nat) (l7 : Nat) (l8 : Int32) (l9 : Int32) (l10 : Nat) (l12 : Int32) (l17 : Int32) (l18 : Int32) (l19 : Int32) (l20 : Int32) (l21 : Int32), GX l G M_L_law (g_phS Q Z) (kb247 + 217) (nb247 + 797) 672 [some (.ref b), none, some (.int l2), some (.ref l3), some (.ref l4), some (.ref l5), some (.ref l6), some (.ref l7), some (.int l8), some (.int l9), some (.ref l10), none, some (.int l12), none, none, none, none, some (.int l17), some (.int l18), some (.int l19), some (.int l20), some (.int l21), none, none, none] [] h (K672 h l2 l3 l4 l5 l6 l7 l8 l9 l10 l12 l17 l18 l19 l20 l21)) (h : gH) (l2 : Int32) (l3 : Nat) (l4 : Nat) (l5 : Nat) (l6 : Nat) (l7 : Nat) (l8 : Int32) (l9 : Int32) (l10 : Nat) (l11 : Int32) (s0 : Int32) (s1 : Int32) : GX l G M_L_law (g_phS Q Z) (kb247 + 241) (nb247 + 1226) 874 [some (.ref b), none, some (.int l2), some (.ref l3), some (.ref l4), some (.ref l5), some (.ref l6), some (.ref l7), some (.int l8), some (.int l9), some (.ref l10), some (.int l11), none, none, none, none, none, none, none, none, none, none, none, none, none] [.int s0, .int s1] h (f_L_law_b874 G xs N K4 K247 K672 h l2 l3 l4 l5 l6 l7 l8 l9 l10 l11 s0 s1) := by
  unfold f_L_law_b874
  refine X_bicmp_ne rfl rfl (fun _ => ?_) (fun _ => ?_)
  · refine X_iconst (v := 1) rfl rfl (by decide) ?_
    refine X_goto rfl rfl ?_
    exact X_sub (g_sub_s (g_sub_n (g_sub_s (g_sub_s (g_sub_s (g_sub_s (g_sub_s (g_sub_s (g_sub_s (g_sub_s (g_sub_s (g_sub_s (g_sub_n (g_sub_n (g_sub_n (g_sub_n (g_sub_n (g_sub_n (g_sub_n (g_sub_n (g_sub_n (g_sub_n (g_sub_n (g_sub_n (g_sub_n g_sub_0))))))))))))))))))))))))) (b_L_law_b882 hl hX hret hkb4 hnb4 hkb247 hnb247 hK4 hK247 hK672 _ _ _ _ _ _ _ _ _ _ _ _)
  · refine X_iconst (v := 0) rfl rfl (by decide) ?_
    exact X_sub (g_sub_s (g_sub_n (g_sub_s (g_sub_s (g_sub_s (g_sub_s (g_sub_s (g_sub_s (g_sub_s (g_sub_s (g_sub_s (g_sub_s (g_sub_n (g_sub_n (g_sub_n (g_sub_n (g_sub_n (g_sub_n (g_sub_n (g_sub_n (g_sub_n (g_sub_n (g_sub_n (g_sub_n (g_sub_n g_sub_0))))))))))))))))))))))))) (b_L_law_b882 hl hX hret hkb4 hnb4 hkb247 hnb247 hK4 hK247 hK672 _ _ _ _ _ _ _ _ _ _ _ _)
set_option maxRecDepth 100000 in
theorem b_L_law_b842 {l : Launch} {G : gG} (hl : l.stackTraces = false) {Q : State → Array Value → List Frame → Prop} {Z : State → Prop} {b N : Nat} {xs : Nat → Int32} (hX : g_scr G Q b N xs) (hret : ∀ (pc : Nat) (L : List (Option Value)) (h : gH) (k n : Nat) (v : Int32), decode code pc = .ok (.ireturn, 1) → k ≤ 600086 → n ≤ 7301442 → GX l G M_L_law (g_phS Q Z) k n pc L [.int v] h (some (v, h))) {kb4 nb4 : Nat} {kb247 nb247 : Nat} {K4 : gH → Int32 → Int32 → Option (Int32 × gH)} {K247 : gH → Int32 → Int32 → Nat → Nat → Nat → Nat → Nat → Int32 → Int32 → Option (Int32 × gH)} {K672 : gH → Int32 → Nat → Nat → Nat → Nat → Nat → Int32 → Int32 → Nat → Int32 → Int32 → Int32 → Int32 → Int32 → Int32 → Option (Int32 × gH)} (hkb4 : kb4 + 9458 ≤ 28374) (hnb4 : nb4 + 56546 ≤ 169638) (hkb247 : kb247 + 313 ≤ kb4 + 9261) (hnb247 : nb247 + 1527 ≤ nb4 + 55363) (hK4 : ∀ (h : gH) (l1 : Int32) (l2 : Int32), GX l G M_L_law (g_phS Q Z) (kb4 + 9458) (nb4 + 56546) 4 [some (.ref b), some (.int l1), some (.int l2), none, none, none, none, none, none, none, none, none, none, none, none, none, none, none, none, none, none, none, none, none, none] [] h (K4 h l1 l2)) (hK247 : ∀ (h : gH) (l1 : Int32) (l2 : Int32) (l3 : Nat) (l4 : Nat) (l5 : Nat) (l6 : Nat) (l7 : Nat) (l8 : Int32) (l9 : Int32), GX l G M_L_law (g_phS Q Z) (kb247 + 313) (nb247 + 1527) 247 [some (.ref b), some (.int l1), some (.int l2), some (.ref l3), some (.ref l4), some (.ref l5), some (.ref l6), some (.ref l7), some (.int l8), some (.int l9), none, none, none, none, none, none, none, none, none, none, none, none, none, none, none] [] h (K247 h l1 l2 l3 l4 l5 l6 l7 l8 l9)) (hK672 : ∀ (h : gH) (l2 : Int32) (l3 : Nat) (l4 : Nat) (l5 : Nat) (l6 : Nat) (l7 : Nat) (l8 : Int32) (l9 : Int32) (l10 : Nat) (l12 : Int32) (l17 : Int32) (l18 : Int32) (l19 : Int32) (l20 : Int32) (l21 : Int32), GX l G M_L_law (g_phS Q Z) (kb247 + 217) (nb247 + 797) 672 [some (.ref b), none, some (.int l2), some (.ref l3), some (.ref l4), some (.ref l5), some (.ref l6), some (.ref l7), some (.int l8), some (.int l9), some (.ref l10), none, some (.int l12), none, none, none, none, some (.int l17), some (.int l18), some (.int l19), some (.int l20), some (.int l21), none, none, none] [] h (K672 h l2 l3 l4 l5 l6 l7 l8 l9 l10 l12 l17 l18 l19 l20 l21)) (h : gH) (l2 : Int32) (l3 : Nat) (l4 : Nat) (l5 : Nat) (l6 : Nat) (l7 : Nat) (l8 : Int32) (l9 : Int32) (l10 : Nat) (l11 : Int32) (l12 : Int32) (l17 : Int32) (l18 : Int32) : GX l G M_L_law (g_phS Q Z) (kb247 + 240) (nb247 + 1220) 842 [some (.ref b), none, some (.int l2), some (.ref l3), some (.ref l4), some (.ref l5), some (.ref l6), some (.ref l7), some (.int l8), some (.int l9), some (.ref l10), some (.int l11), some (.int l12), none, none, none, none, some (.int l17), some (.int l18), none, none, none, none, none, none] [] h (f_L_law_b842 G xs N K4 K247 K672 h l2 l3 l4 l5 l6 l7 l8 l9 l10 l11 l12 l17 l18) := by
  unfold f_L_law_b842
  refine X_aload_n rfl rfl rfl ?_
  refine X_iload rfl rfl rfl ?_
  refine X_iload rfl rfl rfl ?_
  refine X_kY_I (k1 := kb247 + 241) (n1 := nb247 + 1226) (M' := M_L_relieve) (nA := 3) (As := [.ref l3, .int l12, .int l17]) (st := []) rfl rfl (by decide +kernel) rfl rfl rfl (by show kb247 + 240 + 1 = kb247 + 241; omega) (by show nb247 + 1220 + 6 = nb247 + 1226; omega) (X_ble (by show kb247 + 241 ≤ 600086; omega)) (X_ble (by show nb247 + 1226 ≤ 7301442; omega)) (fun _ _ e => cy_L_relieve hl  e) (fun y847 => ?_)
  refine X_iload rfl rfl rfl ?_
  refine X_bif_eq rfl rfl (fun _ => ?_) (fun _ => ?_)
  · refine X_iload rfl rfl rfl ?_
    refine X_bipush (v := 25) rfl rfl (by decide) ?_
    refine X_bicmp_le rfl rfl (fun _ => ?_) (fun _ => ?_)
    · refine X_ldc (v := -2000000098) rfl rfl (by decide +kernel) ?_
      refine X_goto rfl rfl ?_
      exact X_sub (g_sub_s (g_sub_n (g_sub_s (g_sub_s (g_sub_s (g_sub_s (g_sub_s (g_sub_s (g_sub_s (g_sub_s (g_sub_s (g_sub_s (g_sub_n (g_sub_n (g_sub_n (g_sub_n (g_sub_n (g_sub_n (g_sub_n (g_sub_n (g_sub_n (g_sub_n (g_sub_n (g_sub_n (g_sub_n g_sub_0))))))))))))))))))))))))) (b_L_law_b874 hl hX hret hkb4 hnb4 hkb247 hnb247 hK4 hK247 hK672 _ _ _ _ _ _ _ _ _ _ _ _ _)
    · refine X_ldc (v := -2000000099) rfl rfl (by decide +kernel) ?_
      exact X_sub (g_sub_s (g_sub_n (g_sub_s (g_sub_s (g_sub_s (g_sub_s (g_sub_s (g_sub_s (g_sub_s (g_sub_s (g_sub_s (g_sub_s (g_sub_n (g_sub_n (g_sub_n (g_sub_n (g_sub_n (g_sub_n (g_sub_n (g_sub_n (g_sub_n (g_sub_n (g_sub_n (g_sub_n (g_sub_n g_sub_0))))))))))))))))))))))))) (b_L_law_b874 hl hX hret hkb4 hnb4 hkb247 hnb247 hK4 hK247 hK672 _ _ _ _ _ _ _ _ _ _ _ _ _)
  · refine X_iload rfl rfl rfl ?_
    refine X_goto rfl rfl ?_
    exact X_sub (g_sub_s (g_sub_n (g_sub_s (g_sub_s (g_sub_s (g_sub_s (g_sub_s (g_sub_s (g_sub_s (g_sub_s (g_sub_s (g_sub_s (g_sub_n (g_sub_n (g_sub_n (g_sub_n (g_sub_n (g_sub_n (g_sub_n (g_sub_n (g_sub_n (g_sub_n (g_sub_n (g_sub_n (g_sub_n g_sub_0))))))))))))))))))))))))) (b_L_law_b874 hl hX hret hkb4 hnb4 hkb247 hnb247 hK4 hK247 hK672 _ _ _ _ _ _ _ _ _ _ _ _ _)
set_option maxRecDepth 100000 in
theorem b_L_law_b805 {l : Launch} {G : gG} (hl : l.stackTraces = false) {Q : State → Array Value → List Frame → Prop} {Z : State → Prop} {b N : Nat} {xs : Nat → Int32} (hX : g_scr G Q b N xs) (hret : ∀ (pc : Nat) (L : List (Option Value)) (h : gH) (k n : Nat) (v : Int32), decode code pc = .ok (.ireturn, 1) → k ≤ 600086 → n ≤ 7301442 → GX l G M_L_law (g_phS Q Z) k n pc L [.int v] h (some (v, h))) {kb4 nb4 : Nat} {kb247 nb247 : Nat} {kb772 nb772 : Nat} {K4 : gH → Int32 → Int32 → Option (Int32 × gH)} {K247 : gH → Int32 → Int32 → Nat → Nat → Nat → Nat → Nat → Int32 → Int32 → Option (Int32 × gH)} {K672 : gH → Int32 → Nat → Nat → Nat → Nat → Nat → Int32 → Int32 → Nat → Int32 → Int32 → Int32 → Int32 → Int32 → Int32 → Option (Int32 × gH)} {K772 : gH → Int32 → Nat → Nat → Nat → Nat → Nat → Int32 → Int32 → Nat → Int32 → Int32 → Int32 → Int32 → Int32 → Nat → Int32 → Option (Int32 × gH)} (hkb4 : kb4 + 9458 ≤ 28374) (hnb4 : nb4 + 56546 ≤ 169638) (hkb247 : kb247 + 313 ≤ kb4 + 9261) (hnb247 : nb247 + 1527 ≤ nb4 + 55363) (hkb772 : kb772 + 1 ≤ kb247 + 238) (hnb772 : nb772 + 20 ≤ nb247 + 1197) (hK4 : ∀ (h : gH) (l1 : Int32) (l2 : Int32), GX l G M_L_law (g_phS Q Z) (kb4 + 9458) (nb4 + 56546) 4 [some (.ref b), some (.int l1), some (.int l2), none, none, none, none, none, none, none, none, none, none, none, none, none, none, none, none, none, none, none, none, none, none] [] h (K4 h l1 l2)) (hK247 : ∀ (h : gH) (l1 : Int32) (l2 : Int32) (l3 : Nat) (l4 : Nat) (l5 : Nat) (l6 : Nat) (l7 : Nat) (l8 : Int32) (l9 : Int32), GX l G M_L_law (g_phS Q Z) (kb247 + 313) (nb247 + 1527) 247 [some (.ref b), some (.int l1), some (.int l2), some (.ref l3), some (.ref l4), some (.ref l5), some (.ref l6), some (.ref l7), some (.int l8), some (.int l9), none, none, none, none, none, none, none, none, none, none, none, none, none, none, none] [] h (K247 h l1 l2 l3 l4 l5 l6 l7 l8 l9)) (hK672 : ∀ (h : gH) (l2 : Int32) (l3 : Nat) (l4 : Nat) (l5 : Nat) (l6 : Nat) (l7 : Nat) (l8 : Int32) (l9 : Int32) (l10 : Nat) (l12 : Int32) (l17 : Int32) (l18 : Int32) (l19 : Int32) (l20 : Int32) (l21 : Int32), GX l G M_L_law (g_phS Q Z) (kb247 + 217) (nb247 + 797) 672 [some (.ref b), none, some (.int l2), some (.ref l3), some (.ref l4), some (.ref l5), some (.ref l6), some (.ref l7), some (.int l8), some (.int l9), some (.ref l10), none, some (.int l12), none, none, none, none, some (.int l17), some (.int l18), some (.int l19), some (.int l20), some (.int l21), none, none, none] [] h (K672 h l2 l3 l4 l5 l6 l7 l8 l9 l10 l12 l17 l18 l19 l20 l21)) (hK772 : ∀ (h : gH) (l2 : Int32) (l3 : Nat) (l4 : Nat) (l5 : Nat) (l6 : Nat) (l7 : Nat) (l8 : Int32) (l9 : Int32) (l10 : Nat) (l11 : Int32) (l12 : Int32) (l17 : Int32) (l18 : Int32) (l19 : Int32) (l21 : Nat) (l22 : Int32), GX l G M_L_law (g_phS Q Z) (kb772 + 1) (nb772 + 20) 772 [some (.ref b), none, some (.int l2), some (.ref l3), some (.ref l4), some (.ref l5), some (.ref l6), some (.ref l7), some (.int l8), some (.int l9), some (.ref l10), some (.int l11), some (.int l12), none, none, none, none, some (.int l17), some (.int l18), some (.int l19), none, some (.ref l21), some (.int l22), none, none] [] h (K772 h l2 l3 l4 l5 l6 l7 l8 l9 l10 l11 l12 l17 l18 l19 l21 l22)) (h : gH) (l2 : Int32) (l3 : Nat) (l4 : Nat) (l5 : Nat) (l6 : Nat) (l7 : Nat) (l8 : Int32) (l9 : Int32) (l10 : Nat) (l11 : Int32) (l12 : Int32) (l17 : Int32) (l18 : Int32) (l19 : Int32) (l21 : Nat) (l22 : Int32) : GX l G M_L_law (g_phS Q Z) (kb772 + 1) (nb772 + 20) 805 [some (.ref b), none, some (.int l2), some (.ref l3), some (.ref l4), some (.ref l5), some (.ref l6), some (.ref l7), some (.int l8), some (.int l9), some (.ref l10), some (.int l11), some (.int l12), none, none, none, none, some (.int l17), some (.int l18), some (.int l19), none, some (.ref l21), some (.int l22), none, none] [] h (f_L_law_b805 G xs N K4 K247 K672 K772 h l2 l3 l4 l5 l6 l7 l8 l9 l10 l11 l12 l17 l18 l19 l21 l22) := by
  unfold f_L_law_b805
  refine X_iinc (v := l22 + 1) rfl rfl rfl (congrArg (fun z => l22 + z) (by decide : Int32.ofInt 1 = 1)) rfl ?_
  refine X_goto rfl rfl ?_
  refine X_wid (k' := kb772 + 1) (n' := nb772 + 20) (by omega) (by omega) ?_
  exact X_sub (g_sub_s (g_sub_n (g_sub_s (g_sub_s (g_sub_s (g_sub_s (g_sub_s (g_sub_s (g_sub_s (g_sub_s (g_sub_s (g_sub_s (g_sub_s (g_sub_n (g_sub_n (g_sub_n (g_sub_n (g_sub_s (g_sub_s (g_sub_s (g_sub_n (g_sub_s (g_sub_s (g_sub_n (g_sub_n g_sub_0))))))))))))))))))))))))) (hK772 _ _ _ _ _ _ _ _ _ _ _ _ _ _ _ _ _)
set_option maxRecDepth 100000 in
theorem b_L_law_b772 {l : Launch} {G : gG} (hl : l.stackTraces = false) {Q : State → Array Value → List Frame → Prop} {Z : State → Prop} {b N : Nat} {xs : Nat → Int32} (hX : g_scr G Q b N xs) (hret : ∀ (pc : Nat) (L : List (Option Value)) (h : gH) (k n : Nat) (v : Int32), decode code pc = .ok (.ireturn, 1) → k ≤ 600086 → n ≤ 7301442 → GX l G M_L_law (g_phS Q Z) k n pc L [.int v] h (some (v, h))) {kb4 nb4 : Nat} {kb247 nb247 : Nat} {K4 : gH → Int32 → Int32 → Option (Int32 × gH)} {K247 : gH → Int32 → Int32 → Nat → Nat → Nat → Nat → Nat → Int32 → Int32 → Option (Int32 × gH)} {K672 : gH → Int32 → Nat → Nat → Nat → Nat → Nat → Int32 → Int32 → Nat → Int32 → Int32 → Int32 → Int32 → Int32 → Int32 → Option (Int32 × gH)} (hkb4 : kb4 + 9458 ≤ 28374) (hnb4 : nb4 + 56546 ≤ 169638) (hkb247 : kb247 + 313 ≤ kb4 + 9261) (hnb247 : nb247 + 1527 ≤ nb4 + 55363) (hK4 : ∀ (h : gH) (l1 : Int32) (l2 : Int32), GX l G M_L_law (g_phS Q Z) (kb4 + 9458) (nb4 + 56546) 4 [some (.ref b), some (.int l1), some (.int l2), none, none, none, none, none, none, none, none, none, none, none, none, none, none, none, none, none, none, none, none, none, none] [] h (K4 h l1 l2)) (hK247 : ∀ (h : gH) (l1 : Int32) (l2 : Int32) (l3 : Nat) (l4 : Nat) (l5 : Nat) (l6 : Nat) (l7 : Nat) (l8 : Int32) (l9 : Int32), GX l G M_L_law (g_phS Q Z) (kb247 + 313) (nb247 + 1527) 247 [some (.ref b), some (.int l1), some (.int l2), some (.ref l3), some (.ref l4), some (.ref l5), some (.ref l6), some (.ref l7), some (.int l8), some (.int l9), none, none, none, none, none, none, none, none, none, none, none, none, none, none, none] [] h (K247 h l1 l2 l3 l4 l5 l6 l7 l8 l9)) (hK672 : ∀ (h : gH) (l2 : Int32) (l3 : Nat) (l4 : Nat) (l5 : Nat) (l6 : Nat) (l7 : Nat) (l8 : Int32) (l9 : Int32) (l10 : Nat) (l12 : Int32) (l17 : Int32) (l18 : Int32) (l19 : Int32) (l20 : Int32) (l21 : Int32), GX l G M_L_law (g_phS Q Z) (kb247 + 217) (nb247 + 797) 672 [some (.ref b), none, some (.int l2), some (.ref l3), some (.ref l4), some (.ref l5), some (.ref l6), some (.ref l7), some (.int l8), some (.int l9), some (.ref l10), none, some (.int l12), none, none, none, none, some (.int l17), some (.int l18), some (.int l19), some (.int l20), some (.int l21), none, none, none] [] h (K672 h l2 l3 l4 l5 l6 l7 l8 l9 l10 l12 l17 l18 l19 l20 l21)) : ∀ (n kb772 nb772 : Nat), kb772 + n * 1 ≤ kb247 + 238 → nb772 + n * 20 ≤ nb247 + 1197 → ∀ (h : gH) (l2 : Int32) (l3 : Nat) (l4 : Nat) (l5 : Nat) (l6 : Nat) (l7 : Nat) (l8 : Int32) (l9 : Int32) (l10 : Nat) (l11 : Int32) (l12 : Int32) (l17 : Int32) (l18 : Int32) (l19 : Int32) (l21 : Nat) (l22 : Int32), GX l G M_L_law (g_phS Q Z) kb772 nb772 772 [some (.ref b), none, some (.int l2), some (.ref l3), some (.ref l4), some (.ref l5), some (.ref l6), some (.ref l7), some (.int l8), some (.int l9), some (.ref l10), some (.int l11), some (.int l12), none, none, none, none, some (.int l17), some (.int l18), some (.int l19), none, some (.ref l21), some (.int l22), none, none] [] h (f_L_law_b772 G xs N K4 K247 K672 n h l2 l3 l4 l5 l6 l7 l8 l9 l10 l11 l12 l17 l18 l19 l21 l22) := by
  intro n
  induction n with
  | zero => intros; exact X_none
  | succ n ih =>
    intro kb772 nb772 hk0 hn0 h l2 l3 l4 l5 l6 l7 l8 l9 l10 l11 l12 l17 l18 l19 l21 l22
    have hkb772 : kb772 + 1 ≤ kb247 + 238 := by omega
    have hnb772 : nb772 + 20 ≤ nb247 + 1197 := by omega
    rw [f_L_law_b772]
    refine X_iload rfl rfl rfl ?_
    refine X_aload rfl rfl rfl ?_
    refine X_getA rfl rfl (fun v776 => ?_)
    refine X_aln rfl rfl (fun v779 => ?_)
    refine X_bicmp_ge rfl rfl (fun _ => ?_) (fun _ => ?_)
    · refine X_iload rfl rfl rfl ?_
      refine X_iload rfl rfl rfl ?_
      refine X_bicmp_eq rfl rfl (fun _ => ?_) (fun _ => ?_)
      · refine X_wid (k' := kb772 + 1) (n' := nb772 + 20) (by omega) (by omega) ?_
        exact X_sub (g_sub_s (g_sub_n (g_sub_s (g_sub_s (g_sub_s (g_sub_s (g_sub_s (g_sub_s (g_sub_s (g_sub_s (g_sub_s (g_sub_s (g_sub_s (g_sub_n (g_sub_n (g_sub_n (g_sub_n (g_sub_s (g_sub_s (g_sub_s (g_sub_n (g_sub_s (g_sub_s (g_sub_n (g_sub_n g_sub_0))))))))))))))))))))))))) (b_L_law_b805 hl hX hret hkb4 hnb4 hkb247 hnb247 hkb772 hnb772 hK4 hK247 hK672 (ih _ _ (by omega) (by omega)) _ _ _ _ _ _ _ _ _ _ _ _ _ _ _ _ _)
      · refine X_aload rfl rfl rfl ?_
        refine X_aload rfl rfl rfl ?_
        refine X_getA rfl rfl (fun v794 => ?_)
        refine X_iload rfl rfl rfl ?_
        refine X_qld (t := 3) rfl rfl (by simp) (fun v799 => ?_)
        refine X_nn (fun v799n e799 => ?_)
        subst e799
        refine X_kS_A (k1 := kb772 + 1) (n1 := nb772 + 20) (M' := M_L_with) (nA := 2) (As := [.ref l21, .ref v799n]) (st := []) rfl rfl (by decide +kernel) rfl rfl rfl (by show kb772 + 1 = kb772 + 1; omega) (by show nb772 + 20 = nb772 + 20; omega) (X_ble (by show kb772 + 1 ≤ 600086; omega)) (X_ble (by show nb772 + 20 ≤ 7301442; omega)) (fun _ _ e => ct_L_with  e) (fun y800 => ?_)
        refine X_astore rfl rfl rfl rfl ?_
        exact X_sub (g_sub_s (g_sub_n (g_sub_s (g_sub_s (g_sub_s (g_sub_s (g_sub_s (g_sub_s (g_sub_s (g_sub_s (g_sub_s (g_sub_s (g_sub_s (g_sub_n (g_sub_n (g_sub_n (g_sub_n (g_sub_s (g_sub_s (g_sub_s (g_sub_n (g_sub_s (g_sub_s (g_sub_n (g_sub_n g_sub_0))))))))))))))))))))))))) (b_L_law_b805 hl hX hret hkb4 hnb4 hkb247 hnb247 hkb772 hnb772 hK4 hK247 hK672 (ih _ _ (by omega) (by omega)) _ _ _ _ _ _ _ _ _ _ _ _ _ _ _ _ _)
    · refine X_aload rfl rfl rfl ?_
      refine X_aload rfl rfl rfl ?_
      refine X_iconst (v := 3) rfl rfl (by decide) ?_
      refine X_nwI (k1 := kb772 + 1) (n1 := nb772 + 3) (B := 3) rfl rfl (by show kb772 + 1 = kb772 + 1; omega) (by show nb772 + 3 = nb772 + 3; omega) rfl (X_ble (by show kb772 + 1 ≤ 600086; omega)) (X_ble (by show nb772 + 3 ≤ 7301442; omega)) (fun h816 => ?_)
      refine X_dup rfl rfl rfl ?_
      refine X_iconst (v := 0) rfl rfl (by decide) ?_
      refine X_iload rfl rfl rfl ?_
      refine X_ast rfl rfl (fun h822 => ?_)
      refine X_dup rfl rfl rfl ?_
      refine X_iconst (v := 1) rfl rfl (by decide) ?_
      refine X_aload rfl rfl rfl ?_
      refine X_getI rfl rfl (fun v827 => ?_)
      refine X_ast rfl rfl (fun h830 => ?_)
      refine X_dup rfl rfl rfl ?_
      refine X_iconst (v := 2) rfl rfl (by decide) ?_
      refine X_iload rfl rfl rfl ?_
      refine X_ast rfl rfl (fun h835 => ?_)
      refine X_kS_A (k1 := kb772 + 2) (n1 := nb772 + 23) (M' := M_L_with) (nA := 2) (As := [.ref l21, .ref h.1]) (st := [.ref l6]) rfl rfl (by decide +kernel) rfl rfl rfl (by show kb772 + 1 + 1 = kb772 + 2; omega) (by show nb772 + 3 + 20 = nb772 + 23; omega) (X_ble (by show kb772 + 2 ≤ 600086; omega)) (X_ble (by show nb772 + 23 ≤ 7301442; omega)) (fun _ _ e => ct_L_with  e) (fun y836 => ?_)
      refine X_put rfl rfl rfl rfl rfl (fun h839 => ?_)
      refine X_wid (k' := kb247 + 240) (n' := nb247 + 1220) (by omega) (by omega) ?_
      exact X_sub (g_sub_s (g_sub_n (g_sub_s (g_sub_s (g_sub_s (g_sub_s (g_sub_s (g_sub_s (g_sub_s (g_sub_s (g_sub_s (g_sub_s (g_sub_s (g_sub_n (g_sub_n (g_sub_n (g_sub_n (g_sub_s (g_sub_s (g_sub_n (g_sub_n (g_sub_n (g_sub_n (g_sub_n (g_sub_n g_sub_0))))))))))))))))))))))))) (b_L_law_b842 hl hX hret hkb4 hnb4 hkb247 hnb247 hK4 hK247 hK672 _ _ _ _ _ _ _ _ _ _ _ _ _ _)
set_option maxRecDepth 100000 in
theorem b_L_law_b756 {l : Launch} {G : gG} (hl : l.stackTraces = false) {Q : State → Array Value → List Frame → Prop} {Z : State → Prop} {b N : Nat} {xs : Nat → Int32} (hX : g_scr G Q b N xs) (hret : ∀ (pc : Nat) (L : List (Option Value)) (h : gH) (k n : Nat) (v : Int32), decode code pc = .ok (.ireturn, 1) → k ≤ 600086 → n ≤ 7301442 → GX l G M_L_law (g_phS Q Z) k n pc L [.int v] h (some (v, h))) {kb4 nb4 : Nat} {kb247 nb247 : Nat} {K4 : gH → Int32 → Int32 → Option (Int32 × gH)} {K247 : gH → Int32 → Int32 → Nat → Nat → Nat → Nat → Nat → Int32 → Int32 → Option (Int32 × gH)} {K672 : gH → Int32 → Nat → Nat → Nat → Nat → Nat → Int32 → Int32 → Nat → Int32 → Int32 → Int32 → Int32 → Int32 → Int32 → Option (Int32 × gH)} (hkb4 : kb4 + 9458 ≤ 28374) (hnb4 : nb4 + 56546 ≤ 169638) (hkb247 : kb247 + 313 ≤ kb4 + 9261) (hnb247 : nb247 + 1527 ≤ nb4 + 55363) (hK4 : ∀ (h : gH) (l1 : Int32) (l2 : Int32), GX l G M_L_law (g_phS Q Z) (kb4 + 9458) (nb4 + 56546) 4 [some (.ref b), some (.int l1), some (.int l2), none, none, none, none, none, none, none, none, none, none, none, none, none, none, none, none, none, none, none, none, none, none] [] h (K4 h l1 l2)) (hK247 : ∀ (h : gH) (l1 : Int32) (l2 : Int32) (l3 : Nat) (l4 : Nat) (l5 : Nat) (l6 : Nat) (l7 : Nat) (l8 : Int32) (l9 : Int32), GX l G M_L_law (g_phS Q Z) (kb247 + 313) (nb247 + 1527) 247 [some (.ref b), some (.int l1), some (.int l2), some (.ref l3), some (.ref l4), some (.ref l5), some (.ref l6), some (.ref l7), some (.int l8), some (.int l9), none, none, none, none, none, none, none, none, none, none, none, none, none, none, none] [] h (K247 h l1 l2 l3 l4 l5 l6 l7 l8 l9)) (hK672 : ∀ (h : gH) (l2 : Int32) (l3 : Nat) (l4 : Nat) (l5 : Nat) (l6 : Nat) (l7 : Nat) (l8 : Int32) (l9 : Int32) (l10 : Nat) (l12 : Int32) (l17 : Int32) (l18 : Int32) (l19 : Int32) (l20 : Int32) (l21 : Int32), GX l G M_L_law (g_phS Q Z) (kb247 + 217) (nb247 + 797) 672 [some (.ref b), none, some (.int l2), some (.ref l3), some (.ref l4), some (.ref l5), some (.ref l6), some (.ref l7), some (.int l8), some (.int l9), some (.ref l10), none, some (.int l12), none, none, none, none, some (.int l17), some (.int l18), some (.int l19), some (.int l20), some (.int l21), none, none, none] [] h (K672 h l2 l3 l4 l5 l6 l7 l8 l9 l10 l12 l17 l18 l19 l20 l21)) (h : gH) (l2 : Int32) (l3 : Nat) (l4 : Nat) (l5 : Nat) (l6 : Nat) (l7 : Nat) (l8 : Int32) (l9 : Int32) (l10 : Nat) (l12 : Int32) (l17 : Int32) (l18 : Int32) (l19 : Int32) (s0 : Int32) : GX l G M_L_law (g_phS Q Z) (kb247 + 217) (nb247 + 797) 756 [some (.ref b), none, some (.int l2), some (.ref l3), some (.ref l4), some (.ref l5), some (.ref l6), some (.ref l7), some (.int l8), some (.int l9), some (.ref l10), none, some (.int l12), none, none, none, none, some (.int l17), some (.int l18), some (.int l19), none, none, none, none, none] [.int s0] h (f_L_law_b756 G xs N K4 K247 K672 h l2 l3 l4 l5 l6 l7 l8 l9 l10 l12 l17 l18 l19 s0) := by
  unfold f_L_law_b756
  refine X_istore rfl rfl rfl rfl ?_
  refine X_iload rfl rfl rfl ?_
  refine X_bif_eq rfl rfl (fun _ => ?_) (fun _ => ?_)
  · refine X_wid (k' := kb247 + 240) (n' := nb247 + 1220) (by omega) (by omega) ?_
    exact X_sub (g_sub_s (g_sub_n (g_sub_s (g_sub_s (g_sub_s (g_sub_s (g_sub_s (g_sub_s (g_sub_s (g_sub_s (g_sub_s (g_sub_s (g_sub_s (g_sub_n (g_sub_n (g_sub_n (g_sub_n (g_sub_s (g_sub_s (g_sub_n (g_sub_n (g_sub_n (g_sub_n (g_sub_n (g_sub_n g_sub_0))))))))))))))))))))))))) (b_L_law_b842 hl hX hret hkb4 hnb4 hkb247 hnb247 hK4 hK247 hK672 _ _ _ _ _ _ _ _ _ _ _ _ _ _)
  · refine X_iconst (v := 0) rfl rfl (by decide) ?_
    refine X_nwR (k1 := kb247 + 218) (n1 := nb247 + 797) (B := 0) rfl rfl (by show kb247 + 217 + 1 = kb247 + 218; omega) (by show nb247 + 797 + 0 = nb247 + 797; omega) (by decide +kernel) (by decide +kernel) rfl (X_ble (by show kb247 + 218 ≤ 600086; omega)) (X_ble (by show nb247 + 797 ≤ 7301442; omega)) (fun h764 => ?_)
    refine X_astore rfl rfl rfl rfl ?_
    refine X_iconst (v := 0) rfl rfl (by decide) ?_
    refine X_istore rfl rfl rfl rfl ?_
    exact X_sub (g_sub_s (g_sub_n (g_sub_s (g_sub_s (g_sub_s (g_sub_s (g_sub_s (g_sub_s (g_sub_s (g_sub_s (g_sub_s (g_sub_s (g_sub_s (g_sub_n (g_sub_n (g_sub_n (g_sub_n (g_sub_s (g_sub_s (g_sub_s (g_sub_n (g_sub_s (g_sub_s (g_sub_n (g_sub_n g_sub_0))))))))))))))))))))))))) (b_L_law_b772 hl hX hret hkb4 hnb4 hkb247 hnb247 hK4 hK247 hK672 20 _ _ (by omega) (by omega) _ _ _ _ _ _ _ _ _ _ _ _ _ _ _ _ _)
set_option maxRecDepth 100000 in
theorem b_L_law_b751 {l : Launch} {G : gG} (hl : l.stackTraces = false) {Q : State → Array Value → List Frame → Prop} {Z : State → Prop} {b N : Nat} {xs : Nat → Int32} (hX : g_scr G Q b N xs) (hret : ∀ (pc : Nat) (L : List (Option Value)) (h : gH) (k n : Nat) (v : Int32), decode code pc = .ok (.ireturn, 1) → k ≤ 600086 → n ≤ 7301442 → GX l G M_L_law (g_phS Q Z) k n pc L [.int v] h (some (v, h))) {kb4 nb4 : Nat} {kb247 nb247 : Nat} {K4 : gH → Int32 → Int32 → Option (Int32 × gH)} {K247 : gH → Int32 → Int32 → Nat → Nat → Nat → Nat → Nat → Int32 → Int32 → Option (Int32 × gH)} {K672 : gH → Int32 → Nat → Nat → Nat → Nat → Nat → Int32 → Int32 → Nat → Int32 → Int32 → Int32 → Int32 → Int32 → Int32 → Option (Int32 × gH)} (hkb4 : kb4 + 9458 ≤ 28374) (hnb4 : nb4 + 56546 ≤ 169638) (hkb247 : kb247 + 313 ≤ kb4 + 9261) (hnb247 : nb247 + 1527 ≤ nb4 + 55363) (hK4 : ∀ (h : gH) (l1 : Int32) (l2 : Int32), GX l G M_L_law (g_phS Q Z) (kb4 + 9458) (nb4 + 56546) 4 [some (.ref b), some (.int l1), some (.int l2), none, none, none, none, none, none, none, none, none, none, none, none, none, none, none, none, none, none, none, none, none, none] [] h (K4 h l1 l2)) (hK247 : ∀ (h : gH) (l1 : Int32) (l2 : Int32) (l3 : Nat) (l4 : Nat) (l5 : Nat) (l6 : Nat) (l7 : Nat) (l8 : Int32) (l9 : Int32), GX l G M_L_law (g_phS Q Z) (kb247 + 313) (nb247 + 1527) 247 [some (.ref b), some (.int l1), some (.int l2), some (.ref l3), some (.ref l4), some (.ref l5), some (.ref l6), some (.ref l7), some (.int l8), some (.int l9), none, none, none, none, none, none, none, none, none, none, none, none, none, none, none] [] h (K247 h l1 l2 l3 l4 l5 l6 l7 l8 l9)) (hK672 : ∀ (h : gH) (l2 : Int32) (l3 : Nat) (l4 : Nat) (l5 : Nat) (l6 : Nat) (l7 : Nat) (l8 : Int32) (l9 : Int32) (l10 : Nat) (l12 : Int32) (l17 : Int32) (l18 : Int32) (l19 : Int32) (l20 : Int32) (l21 : Int32), GX l G M_L_law (g_phS Q Z) (kb247 + 217) (nb247 + 797) 672 [some (.ref b), none, some (.int l2), some (.ref l3), some (.ref l4), some (.ref l5), some (.ref l6), some (.ref l7), some (.int l8), some (.int l9), some (.ref l10), none, some (.int l12), none, none, none, none, some (.int l17), some (.int l18), some (.int l19), some (.int l20), some (.int l21), none, none, none] [] h (K672 h l2 l3 l4 l5 l6 l7 l8 l9 l10 l12 l17 l18 l19 l20 l21)) (h : gH) (l2 : Int32) (l3 : Nat) (l4 : Nat) (l5 : Nat) (l6 : Nat) (l7 : Nat) (l8 : Int32) (l9 : Int32) (l10 : Nat) (l12 : Int32) (l17 : Int32) (l18 : Int32) (l19 : Int32) : GX l G M_L_law (g_phS Q Z) (kb247 + 217) (nb247 + 797) 751 [some (.ref b), none, some (.int l2), some (.ref l3), some (.ref l4), some (.ref l5), some (.ref l6), some (.ref l7), some (.int l8), some (.int l9), some (.ref l10), none, some (.int l12), none, none, none, none, some (.int l17), some (.int l18), some (.int l19), none, none, none, none, none] [] h (f_L_law_b751 G xs N K4 K247 K672 h l2 l3 l4 l5 l6 l7 l8 l9 l10 l12 l17 l18 l19) := by
  unfold f_L_law_b751
  refine X_iconst (v := 1) rfl rfl (by decide) ?_
  refine X_goto rfl rfl ?_
  exact X_sub (g_sub_s (g_sub_n (g_sub_s (g_sub_s (g_sub_s (g_sub_s (g_sub_s (g_sub_s (g_sub_s (g_sub_s (g_sub_s (g_sub_n (g_sub_s (g_sub_n (g_sub_n (g_sub_n (g_sub_n (g_sub_s (g_sub_s (g_sub_s (g_sub_n (g_sub_n (g_sub_n (g_sub_n (g_sub_n g_sub_0))))))))))))))))))))))))) (b_L_law_b756 hl hX hret hkb4 hnb4 hkb247 hnb247 hK4 hK247 hK672 _ _ _ _ _ _ _ _ _ _ _ _ _ _ _)
set_option maxRecDepth 100000 in
theorem b_L_law_b755 {l : Launch} {G : gG} (hl : l.stackTraces = false) {Q : State → Array Value → List Frame → Prop} {Z : State → Prop} {b N : Nat} {xs : Nat → Int32} (hX : g_scr G Q b N xs) (hret : ∀ (pc : Nat) (L : List (Option Value)) (h : gH) (k n : Nat) (v : Int32), decode code pc = .ok (.ireturn, 1) → k ≤ 600086 → n ≤ 7301442 → GX l G M_L_law (g_phS Q Z) k n pc L [.int v] h (some (v, h))) {kb4 nb4 : Nat} {kb247 nb247 : Nat} {K4 : gH → Int32 → Int32 → Option (Int32 × gH)} {K247 : gH → Int32 → Int32 → Nat → Nat → Nat → Nat → Nat → Int32 → Int32 → Option (Int32 × gH)} {K672 : gH → Int32 → Nat → Nat → Nat → Nat → Nat → Int32 → Int32 → Nat → Int32 → Int32 → Int32 → Int32 → Int32 → Int32 → Option (Int32 × gH)} (hkb4 : kb4 + 9458 ≤ 28374) (hnb4 : nb4 + 56546 ≤ 169638) (hkb247 : kb247 + 313 ≤ kb4 + 9261) (hnb247 : nb247 + 1527 ≤ nb4 + 55363) (hK4 : ∀ (h : gH) (l1 : Int32) (l2 : Int32), GX l G M_L_law (g_phS Q Z) (kb4 + 9458) (nb4 + 56546) 4 [some (.ref b), some (.int l1), some (.int l2), none, none, none, none, none, none, none, none, none, none, none, none, none, none, none, none, none, none, none, none, none, none] [] h (K4 h l1 l2)) (hK247 : ∀ (h : gH) (l1 : Int32) (l2 : Int32) (l3 : Nat) (l4 : Nat) (l5 : Nat) (l6 : Nat) (l7 : Nat) (l8 : Int32) (l9 : Int32), GX l G M_L_law (g_phS Q Z) (kb247 + 313) (nb247 + 1527) 247 [some (.ref b), some (.int l1), some (.int l2), some (.ref l3), some (.ref l4), some (.ref l5), some (.ref l6), some (.ref l7), some (.int l8), some (.int l9), none, none, none, none, none, none, none, none, none, none, none, none, none, none, none] [] h (K247 h l1 l2 l3 l4 l5 l6 l7 l8 l9)) (hK672 : ∀ (h : gH) (l2 : Int32) (l3 : Nat) (l4 : Nat) (l5 : Nat) (l6 : Nat) (l7 : Nat) (l8 : Int32) (l9 : Int32) (l10 : Nat) (l12 : Int32) (l17 : Int32) (l18 : Int32) (l19 : Int32) (l20 : Int32) (l21 : Int32), GX l G M_L_law (g_phS Q Z) (kb247 + 217) (nb247 + 797) 672 [some (.ref b), none, some (.int l2), some (.ref l3), some (.ref l4), some (.ref l5), some (.ref l6), some (.ref l7), some (.int l8), some (.int l9), some (.ref l10), none, some (.int l12), none, none, none, none, some (.int l17), some (.int l18), some (.int l19), some (.int l20), some (.int l21), none, none, none] [] h (K672 h l2 l3 l4 l5 l6 l7 l8 l9 l10 l12 l17 l18 l19 l20 l21)) (h : gH) (l2 : Int32) (l3 : Nat) (l4 : Nat) (l5 : Nat) (l6 : Nat) (l7 : Nat) (l8 : Int32) (l9 : Int32) (l10 : Nat) (l12 : Int32) (l17 : Int32) (l18 : Int32) (l19 : Int32) : GX l G M_L_law (g_phS Q Z) (kb247 + 217) (nb247 + 797) 755 [some (.ref b), none, some (.int l2), some (.ref l3), some (.ref l4), some (.ref l5), some (.ref l6), some (.ref l7), some (.int l8), some (.int l9), some (.ref l10), none, some (.int l12), none, none, none, none, some (.int l17), some (.int l18), some (.int l19), none, none, none, none, none] [] h (f_L_law_b755 G xs N K4 K247 K672 h l2 l3 l4 l5 l6 l7 l8 l9 l10 l12 l17 l18 l19) := by
  unfold f_L_law_b755
  refine X_iconst (v := 0) rfl rfl (by decide) ?_
  exact X_sub (g_sub_s (g_sub_n (g_sub_s (g_sub_s (g_sub_s (g_sub_s (g_sub_s (g_sub_s (g_sub_s (g_sub_s (g_sub_s (g_sub_n (g_sub_s (g_sub_n (g_sub_n (g_sub_n (g_sub_n (g_sub_s (g_sub_s (g_sub_s (g_sub_n (g_sub_n (g_sub_n (g_sub_n (g_sub_n g_sub_0))))))))))))))))))))))))) (b_L_law_b756 hl hX hret hkb4 hnb4 hkb247 hnb247 hK4 hK247 hK672 _ _ _ _ _ _ _ _ _ _ _ _ _ _ _)
set_option maxRecDepth 100000 in
theorem b_L_law_b672 {l : Launch} {G : gG} (hl : l.stackTraces = false) {Q : State → Array Value → List Frame → Prop} {Z : State → Prop} {b N : Nat} {xs : Nat → Int32} (hX : g_scr G Q b N xs) (hret : ∀ (pc : Nat) (L : List (Option Value)) (h : gH) (k n : Nat) (v : Int32), decode code pc = .ok (.ireturn, 1) → k ≤ 600086 → n ≤ 7301442 → GX l G M_L_law (g_phS Q Z) k n pc L [.int v] h (some (v, h))) {kb4 nb4 : Nat} {kb247 nb247 : Nat} {K4 : gH → Int32 → Int32 → Option (Int32 × gH)} {K247 : gH → Int32 → Int32 → Nat → Nat → Nat → Nat → Nat → Int32 → Int32 → Option (Int32 × gH)} (hkb4 : kb4 + 9458 ≤ 28374) (hnb4 : nb4 + 56546 ≤ 169638) (hkb247 : kb247 + 313 ≤ kb4 + 9261) (hnb247 : nb247 + 1527 ≤ nb4 + 55363) (hK4 : ∀ (h : gH) (l1 : Int32) (l2 : Int32), GX l G M_L_law (g_phS Q Z) (kb4 + 9458) (nb4 + 56546) 4 [some (.ref b), some (.int l1), some (.int l2), none, none, none, none, none, none, none, none, none, none, none, none, none, none, none, none, none, none, none, none, none, none] [] h (K4 h l1 l2)) (hK247 : ∀ (h : gH) (l1 : Int32) (l2 : Int32) (l3 : Nat) (l4 : Nat) (l5 : Nat) (l6 : Nat) (l7 : Nat) (l8 : Int32) (l9 : Int32), GX l G M_L_law (g_phS Q Z) (kb247 + 313) (nb247 + 1527) 247 [some (.ref b), some (.int l1), some (.int l2), some (.ref l3), some (.ref l4), some (.ref l5), some (.ref l6), some (.ref l7), some (.int l8), some (.int l9), none, none, none, none, none, none, none, none, none, none, none, none, none, none, none] [] h (K247 h l1 l2 l3 l4 l5 l6 l7 l8 l9)) : ∀ (n : Nat) (h : gH) (l2 : Int32) (l3 : Nat) (l4 : Nat) (l5 : Nat) (l6 : Nat) (l7 : Nat) (l8 : Int32) (l9 : Int32) (l10 : Nat) (l12 : Int32) (l17 : Int32) (l18 : Int32) (l19 : Int32) (l20 : Int32) (l21 : Int32), GX l G M_L_law (g_phS Q Z) (kb247 + 217) (nb247 + 797) 672 [some (.ref b), none, some (.int l2), some (.ref l3), some (.ref l4), some (.ref l5), some (.ref l6), some (.ref l7), some (.int l8), some (.int l9), some (.ref l10), none, some (.int l12), none, none, none, none, some (.int l17), some (.int l18), some (.int l19), some (.int l20), some (.int l21), none, none, none] [] h (f_L_law_b672 G xs N K4 K247 n h l2 l3 l4 l5 l6 l7 l8 l9 l10 l12 l17 l18 l19 l20 l21) := by
  intro n
  induction n with
  | zero => intros; exact X_none
  | succ n ih =>
    intro h l2 l3 l4 l5 l6 l7 l8 l9 l10 l12 l17 l18 l19 l20 l21
    rw [f_L_law_b672]
    refine X_iload rfl rfl rfl ?_
    refine X_aload rfl rfl rfl ?_
    refine X_getA rfl rfl (fun v676 => ?_)
    refine X_aln rfl rfl (fun v679 => ?_)
    refine X_bicmp_ge rfl rfl (fun _ => ?_) (fun _ => ?_)
    · refine X_aload rfl rfl rfl ?_
      refine X_getA rfl rfl (fun v685 => ?_)
      refine X_iload rfl rfl rfl ?_
      refine X_qld (t := 3) rfl rfl (by simp) (fun v690 => ?_)
      refine X_nn (fun v690n e690 => ?_)
      subst e690
      refine X_iconst (v := 0) rfl rfl (by decide) ?_
      refine X_ald rfl rfl (fun v692 => ?_)
      refine X_iload rfl rfl rfl ?_
      refine X_bicmp_eq rfl rfl (fun _ => ?_) (fun _ => ?_)
      · refine X_iinc (v := l20 + 1) rfl rfl rfl (congrArg (fun z => l20 + z) (by decide : Int32.ofInt 1 = 1)) rfl ?_
        refine X_aload rfl rfl rfl ?_
        refine X_getA rfl rfl (fun v706 => ?_)
        refine X_iload rfl rfl rfl ?_
        refine X_qld (t := 3) rfl rfl (by simp) (fun v711 => ?_)
        refine X_nn (fun v711n e711 => ?_)
        subst e711
        refine X_iconst (v := 1) rfl rfl (by decide) ?_
        refine X_ald rfl rfl (fun v713 => ?_)
        refine X_aload rfl rfl rfl ?_
        refine X_getI rfl rfl (fun v716 => ?_)
        refine X_bicmp_ne rfl rfl (fun _ => ?_) (fun _ => ?_)
        · refine X_iload rfl rfl rfl ?_
          refine X_istore rfl rfl rfl rfl ?_
          exact X_sub (g_sub_s (g_sub_n (g_sub_s (g_sub_s (g_sub_s (g_sub_s (g_sub_s (g_sub_s (g_sub_s (g_sub_s (g_sub_s (g_sub_n (g_sub_s (g_sub_n (g_sub_n (g_sub_n (g_sub_n (g_sub_s (g_sub_s (g_sub_s (g_sub_s (g_sub_s (g_sub_n (g_sub_n (g_sub_n g_sub_0))))))))))))))))))))))))) (b_L_law_b726 hl hX hret hkb4 hnb4 hkb247 hnb247 hK4 hK247 ih _ _ _ _ _ _ _ _ _ _ _ _ _ _ _ _)
        · exact X_sub (g_sub_s (g_sub_n (g_sub_s (g_sub_s (g_sub_s (g_sub_s (g_sub_s (g_sub_s (g_sub_s (g_sub_s (g_sub_s (g_sub_n (g_sub_s (g_sub_n (g_sub_n (g_sub_n (g_sub_n (g_sub_s (g_sub_s (g_sub_s (g_sub_s (g_sub_s (g_sub_n (g_sub_n (g_sub_n g_sub_0))))))))))))))))))))))))) (b_L_law_b726 hl hX hret hkb4 hnb4 hkb247 hnb247 hK4 hK247 ih _ _ _ _ _ _ _ _ _ _ _ _ _ _ _ _)
      · refine X_goto rfl rfl ?_
        exact X_sub (g_sub_s (g_sub_n (g_sub_s (g_sub_s (g_sub_s (g_sub_s (g_sub_s (g_sub_s (g_sub_s (g_sub_s (g_sub_s (g_sub_n (g_sub_s (g_sub_n (g_sub_n (g_sub_n (g_sub_n (g_sub_s (g_sub_s (g_sub_s (g_sub_s (g_sub_s (g_sub_n (g_sub_n (g_sub_n g_sub_0))))))))))))))))))))))))) (b_L_law_b726 hl hX hret hkb4 hnb4 hkb247 hnb247 hK4 hK247 ih _ _ _ _ _ _ _ _ _ _ _ _ _ _ _ _)
    · refine X_iload rfl rfl rfl ?_
      refine X_bipush (v := 26) rfl rfl (by decide) ?_
      refine X_bicmp_ge rfl rfl (fun _ => ?_) (fun _ => ?_)
      · refine X_iload rfl rfl rfl ?_
        refine X_bif_ge rfl rfl (fun _ => ?_) (fun _ => ?_)
        · refine X_iload rfl rfl rfl ?_
          refine X_bipush (v := 8) rfl rfl (by decide) ?_
          refine X_bicmp_ge rfl rfl (fun _ => ?_) (fun _ => ?_)
          · exact X_sub (g_sub_s (g_sub_n (g_sub_s (g_sub_s (g_sub_s (g_sub_s (g_sub_s (g_sub_s (g_sub_s (g_sub_s (g_sub_s (g_sub_n (g_sub_s (g_sub_n (g_sub_n (g_sub_n (g_sub_n (g_sub_s (g_sub_s (g_sub_s (g_sub_n (g_sub_n (g_sub_n (g_sub_n (g_sub_n g_sub_0))))))))))))))))))))))))) (b_L_law_b751 hl hX hret hkb4 hnb4 hkb247 hnb247 hK4 hK247 ih _ _ _ _ _ _ _ _ _ _ _ _ _ _)
          · exact X_sub (g_sub_s (g_sub_n (g_sub_s (g_sub_s (g_sub_s (g_sub_s (g_sub_s (g_sub_s (g_sub_s (g_sub_s (g_sub_s (g_sub_n (g_sub_s (g_sub_n (g_sub_n (g_sub_n (g_sub_n (g_sub_s (g_sub_s (g_sub_s (g_sub_n (g_sub_n (g_sub_n (g_sub_n (g_sub_n g_sub_0))))))))))))))))))))))))) (b_L_law_b755 hl hX hret hkb4 hnb4 hkb247 hnb247 hK4 hK247 ih _ _ _ _ _ _ _ _ _ _ _ _ _ _)
        · exact X_sub (g_sub_s (g_sub_n (g_sub_s (g_sub_s (g_sub_s (g_sub_s (g_sub_s (g_sub_s (g_sub_s (g_sub_s (g_sub_s (g_sub_n (g_sub_s (g_sub_n (g_sub_n (g_sub_n (g_sub_n (g_sub_s (g_sub_s (g_sub_s (g_sub_n (g_sub_n (g_sub_n (g_sub_n (g_sub_n g_sub_0))))))))))))))))))))))))) (b_L_law_b751 hl hX hret hkb4 hnb4 hkb247 hnb247 hK4 hK247 ih _ _ _ _ _ _ _ _ _ _ _ _ _ _)
      · exact X_sub (g_sub_s (g_sub_n (g_sub_s (g_sub_s (g_sub_s (g_sub_s (g_sub_s (g_sub_s (g_sub_s (g_sub_s (g_sub_s (g_sub_n (g_sub_s (g_sub_n (g_sub_n (g_sub_n (g_sub_n (g_sub_s (g_sub_s (g_sub_s (g_sub_n (g_sub_n (g_sub_n (g_sub_n (g_sub_n g_sub_0))))))))))))))))))))))))) (b_L_law_b755 hl hX hret hkb4 hnb4 hkb247 hnb247 hK4 hK247 ih _ _ _ _ _ _ _ _ _ _ _ _ _ _)
set_option maxRecDepth 100000 in
theorem b_L_law_b968 {l : Launch} {G : gG} (hl : l.stackTraces = false) {Q : State → Array Value → List Frame → Prop} {Z : State → Prop} {b N : Nat} {xs : Nat → Int32} (hX : g_scr G Q b N xs) (hret : ∀ (pc : Nat) (L : List (Option Value)) (h : gH) (k n : Nat) (v : Int32), decode code pc = .ok (.ireturn, 1) → k ≤ 600086 → n ≤ 7301442 → GX l G M_L_law (g_phS Q Z) k n pc L [.int v] h (some (v, h))) {kb4 nb4 : Nat} {kb247 nb247 : Nat} {K4 : gH → Int32 → Int32 → Option (Int32 × gH)} {K247 : gH → Int32 → Int32 → Nat → Nat → Nat → Nat → Nat → Int32 → Int32 → Option (Int32 × gH)} (hkb4 : kb4 + 9458 ≤ 28374) (hnb4 : nb4 + 56546 ≤ 169638) (hkb247 : kb247 + 313 ≤ kb4 + 9261) (hnb247 : nb247 + 1527 ≤ nb4 + 55363) (hK4 : ∀ (h : gH) (l1 : Int32) (l2 : Int32), GX l G M_L_law (g_phS Q Z) (kb4 + 9458) (nb4 + 56546) 4 [some (.ref b), some (.int l1), some (.int l2), none, none, none, none, none, none, none, none, none, none, none, none, none, none, none, none, none, none, none, none, none, none] [] h (K4 h l1 l2)) (hK247 : ∀ (h : gH) (l1 : Int32) (l2 : Int32) (l3 : Nat) (l4 : Nat) (l5 : Nat) (l6 : Nat) (l7 : Nat) (l8 : Int32) (l9 : Int32), GX l G M_L_law (g_phS Q Z) (kb247 + 313) (nb247 + 1527) 247 [some (.ref b), some (.int l1), some (.int l2), some (.ref l3), some (.ref l4), some (.ref l5), some (.ref l6), some (.ref l7), some (.int l8), some (.int l9), none, none, none, none, none, none, none, none, none, none, none, none, none, none, none] [] h (K247 h l1 l2 l3 l4 l5 l6 l7 l8 l9)) (h : gH) (l2 : Int32) (l3 : Nat) (l4 : Nat) (l5 : Nat) (l6 : Nat) (l7 : Nat) (l8 : Int32) (l9 : Int32) (l10 : Nat) (l11 : Int32) (s0 : Int32) : GX l G M_L_law (g_phS Q Z) (kb247 + 218) (nb247 + 803) 968 [some (.ref b), none, some (.int l2), some (.ref l3), some (.ref l4), some (.ref l5), some (.ref l6), some (.ref l7), some (.int l8), some (.int l9), some (.ref l10), some (.int l11), none, none, none, none, none, none, none, none, none, none, none, none, none] [.int s0] h (f_L_law_b968 G xs N K4 K247 h l2 l3 l4 l5 l6 l7 l8 l9 l10 l11 s0) := by
  unfold f_L_law_b968
  refine X_istore_n rfl rfl rfl rfl ?_
  refine X_goto rfl rfl ?_
  refine X_wid (k' := kb247 + 294) (n' := nb247 + 1413) (by omega) (by omega) ?_
  exact X_sub (g_sub_s (g_sub_s (g_sub_s (g_sub_s (g_sub_s (g_sub_s (g_sub_s (g_sub_s (g_sub_s (g_sub_s (g_sub_s (g_sub_s (g_sub_n (g_sub_n (g_sub_n (g_sub_n (g_sub_n (g_sub_n (g_sub_n (g_sub_n (g_sub_n (g_sub_n (g_sub_n (g_sub_n (g_sub_n g_sub_0))))))))))))))))))))))))) (b_L_law_b1159 hl hX hret hkb4 hnb4 hkb247 hnb247 hK4 hK247 hK345 _ _ _ _ _ _ _ _ _ _ _ _)
set_option maxRecDepth 100000 in
theorem b_L_law_b960 {l : Launch} {G : gG} (hl : l.stackTraces = false) {Q : State → Array Value → List Frame → Prop} {Z : State → Prop} {b N : Nat} {xs : Nat → Int32} (hX : g_scr G Q b N xs) (hret : ∀ (pc : Nat) (L : List (Option Value)) (h : gH) (k n : Nat) (v : Int32), decode code pc = .ok (.ireturn, 1) → k ≤ 600086 → n ≤ 7301442 → GX l G M_L_law (g_phS Q Z) k n pc L [.int v] h (some (v, h))) {kb4 nb4 : Nat} {kb247 nb247 : Nat} {K4 : gH → Int32 → Int32 → Option (Int32 × gH)} {K247 : gH → Int32 → Int32 → Nat → Nat → Nat → Nat → Nat → Int32 → Int32 → Option (Int32 × gH)} (hkb4 : kb4 + 9458 ≤ 28374) (hnb4 : nb4 + 56546 ≤ 169638) (hkb247 : kb247 + 313 ≤ kb4 + 9261) (hnb247 : nb247 + 1527 ≤ nb4 + 55363) (hK4 : ∀ (h : gH) (l1 : Int32) (l2 : Int32), GX l G M_L_law (g_phS Q Z) (kb4 + 9458) (nb4 + 56546) 4 [some (.ref b), some (.int l1), some (.int l2), none, none, none, none, none, none, none, none, none, none, none, none, none, none, none, none, none, none, none, none, none, none] [] h (K4 h l1 l2)) (hK247 : ∀ (h : gH) (l1 : Int32) (l2 : Int32) (l3 : Nat) (l4 : Nat) (l5 : Nat) (l6 : Nat) (l7 : Nat) (l8 : Int32) (l9 : Int32), GX l G M_L_law (g_phS Q Z) (kb247 + 313) (nb247 + 1527) 247 [some (.ref b), some (.int l1), some (.int l2), some (.ref l3), some (.ref l4), some (.ref l5), some (.ref l6), some (.ref l7), some (.int l8), some (.int l9), none, none, none, none, none, none, none, none, none, none, none, none, none, none, none] [] h (K247 h l1 l2 l3 l4 l5 l6 l7 l8 l9)) (h : gH) (l2 : Int32) (l3 : Nat) (l4 : Nat) (l5 : Nat) (l6 : Nat) (l7 : Nat) (l8 : Int32) (l9 : Int32) (l10 : Nat) (l11 : Int32) (s0 : Int32) (s1 : Int32) : GX l G M_L_law (g_phS Q Z) (kb247 + 218) (nb247 + 803) 960 [some (.ref b), none, some (.int l2), some (.ref l3), some (.ref l4), some (.ref l5), some (.ref l6), some (.ref l7), some (.int l8), some (.int l9), some (.ref l10), some (.int l11), none, none, none, none, none, none, none, none, none, none, none, none, none] [.int s0, .int s1] h (f_L_law_b960 G xs N K4 K247 h l2 l3 l4 l5 l6 l7 l8 l9 l10 l11 s0 s1) := by
  unfold f_L_law_b960
  refine X_bicmp_ne rfl rfl (fun _ => ?_) (fun _ => ?_)
  · refine X_iconst (v := 1) rfl rfl (by decide) ?_
    refine X_goto rfl rfl ?_
    exact X_sub (g_sub_s (g_sub_n (g_sub_s (g_sub_s (g_sub_s (g_sub_s (g_sub_s (g_sub_s (g_sub_s (g_sub_s (g_sub_s (g_sub_s (g_sub_n (g_sub_n (g_sub_n (g_sub_n (g_sub_n (g_sub_n (g_sub_n (g_sub_n (g_sub_n (g_sub_n (g_sub_n (g_sub_n (g_sub_n g_sub_0))))))))))))))))))))))))) (b_L_law_b968 hl hX hret hkb4 hnb4 hkb247 hnb247 hK4 hK247 _ _ _ _ _ _ _ _ _ _ _ _)
  · refine X_iconst (v := 0) rfl rfl (by decide) ?_
    exact X_sub (g_sub_s (g_sub_n (g_sub_s (g_sub_s (g_sub_s (g_sub_s (g_sub_s (g_sub_s (g_sub_s (g_sub_s (g_sub_s (g_sub_s (g_sub_n (g_sub_n (g_sub_n (g_sub_n (g_sub_n (g_sub_n (g_sub_n (g_sub_n (g_sub_n (g_sub_n (g_sub_n (g_sub_n (g_sub_n g_sub_0))))))))))))))))))))))))) (b_L_law_b968 hl hX hret hkb4 hnb4 hkb247 hnb247 hK4 hK247 _ _ _ _ _ _ _ _ _ _ _ _)
set_option maxRecDepth 100000 in
theorem b_L_law_b940 {l : Launch} {G : gG} (hl : l.stackTraces = false) {Q : State → Array Value → List Frame → Prop} {Z : State → Prop} {b N : Nat} {xs : Nat → Int32} (hX : g_scr G Q b N xs) (hret : ∀ (pc : Nat) (L : List (Option Value)) (h : gH) (k n : Nat) (v : Int32), decode code pc = .ok (.ireturn, 1) → k ≤ 600086 → n ≤ 7301442 → GX l G M_L_law (g_phS Q Z) k n pc L [.int v] h (some (v, h))) {kb4 nb4 : Nat} {kb247 nb247 : Nat} {K4 : gH → Int32 → Int32 → Option (Int32 × gH)} {K247 : gH → Int32 → Int32 → Nat → Nat → Nat → Nat → Nat → Int32 → Int32 → Option (Int32 × gH)} (hkb4 : kb4 + 9458 ≤ 28374) (hnb4 : nb4 + 56546 ≤ 169638) (hkb247 : kb247 + 313 ≤ kb4 + 9261) (hnb247 : nb247 + 1527 ≤ nb4 + 55363) (hK4 : ∀ (h : gH) (l1 : Int32) (l2 : Int32), GX l G M_L_law (g_phS Q Z) (kb4 + 9458) (nb4 + 56546) 4 [some (.ref b), some (.int l1), some (.int l2), none, none, none, none, none, none, none, none, none, none, none, none, none, none, none, none, none, none, none, none, none, none] [] h (K4 h l1 l2)) (hK247 : ∀ (h : gH) (l1 : Int32) (l2 : Int32) (l3 : Nat) (l4 : Nat) (l5 : Nat) (l6 : Nat) (l7 : Nat) (l8 : Int32) (l9 : Int32), GX l G M_L_law (g_phS Q Z) (kb247 + 313) (nb247 + 1527) 247 [some (.ref b), some (.int l1), some (.int l2), some (.ref l3), some (.ref l4), some (.ref l5), some (.ref l6), some (.ref l7), some (.int l8), some (.int l9), none, none, none, none, none, none, none, none, none, none, none, none, none, none, none] [] h (K247 h l1 l2 l3 l4 l5 l6 l7 l8 l9)) (h : gH) (l2 : Int32) (l3 : Nat) (l4 : Nat) (l5 : Nat) (l6 : Nat) (l7 : Nat) (l8 : Int32) (l9 : Int32) (l10 : Nat) (l11 : Int32) (l12 : Int32) (l21 : Int32) (l22 : Int32) : GX l G M_L_law (g_phS Q Z) (kb247 + 217) (nb247 + 797) 940 [some (.ref b), none, some (.int l2), some (.ref l3), some (.ref l4), some (.ref l5), some (.ref l6), some (.ref l7), some (.int l8), some (.int l9), some (.ref l10), some (.int l11), some (.int l12), none, none, none, none, none, none, none, none, some (.int l21), some (.int l22), none, none] [] h (f_L_law_b940 G xs N K4 K247 h l2 l3 l4 l5 l6 l7 l8 l9 l10 l11 l12 l21 l22) := by
  unfold f_L_law_b940
  refine X_aload_n rfl rfl rfl ?_
  refine X_iload rfl rfl rfl ?_
  refine X_iload rfl rfl rfl ?_
  refine X_kY_I (k1 := kb247 + 218) (n1 := nb247 + 803) (M' := M_L_power) (nA := 3) (As := [.ref l3, .int l12, .int l21]) (st := []) rfl rfl (by decide +kernel) rfl rfl rfl (by show kb247 + 217 + 1 = kb247 + 218; omega) (by show nb247 + 797 + 6 = nb247 + 803; omega) (X_ble (by show kb247 + 218 ≤ 600086; omega)) (X_ble (by show nb247 + 803 ≤ 7301442; omega)) (fun _ _ e => cy_L_power hl  e) (fun y945 => ?_)
  refine X_iload rfl rfl rfl ?_
  refine X_bif_eq rfl rfl (fun _ => ?_) (fun _ => ?_)
  · refine X_ldc (v := -2000000098) rfl rfl (by decide +kernel) ?_
    exact X_sub (g_sub_s (g_sub_n (g_sub_s (g_sub_s (g_sub_s (g_sub_s (g_sub_s (g_sub_s (g_sub_s (g_sub_s (g_sub_s (g_sub_s (g_sub_n (g_sub_n (g_sub_n (g_sub_n (g_sub_n (g_sub_n (g_sub_n (g_sub_n (g_sub_n (g_sub_n (g_sub_n (g_sub_n (g_sub_n g_sub_0))))))))))))))))))))))))) (b_L_law_b960 hl hX hret hkb4 hnb4 hkb247 hnb247 hK4 hK247 _ _ _ _ _ _ _ _ _ _ _ _ _)
  · refine X_iload rfl rfl rfl ?_
    refine X_goto rfl rfl ?_
    exact X_sub (g_sub_s (g_sub_n (g_sub_s (g_sub_s (g_sub_s (g_sub_s (g_sub_s (g_sub_s (g_sub_s (g_sub_s (g_sub_s (g_sub_s (g_sub_n (g_sub_n (g_sub_n (g_sub_n (g_sub_n (g_sub_n (g_sub_n (g_sub_n (g_sub_n (g_sub_n (g_sub_n (g_sub_n (g_sub_n g_sub_0))))))))))))))))))))))))) (b_L_law_b960 hl hX hret hkb4 hnb4 hkb247 hnb247 hK4 hK247 _ _ _ _ _ _ _ _ _ _ _ _ _)
set_option maxRecDepth 100000 in
theorem b_L_law_b907 {l : Launch} {G : gG} (hl : l.stackTraces = false) {Q : State → Array Value → List Frame → Prop} {Z : State → Prop} {b N : Nat} {xs : Nat → Int32} (hX : g_scr G Q b N xs) (hret : ∀ (pc : Nat) (L : List (Option Value)) (h : gH) (k n : Nat) (v : Int32), decode code pc = .ok (.ireturn, 1) → k ≤ 600086 → n ≤ 7301442 → GX l G M_L_law (g_phS Q Z) k n pc L [.int v] h (some (v, h))) {kb4 nb4 : Nat} {kb247 nb247 : Nat} {K4 : gH → Int32 → Int32 → Option (Int32 × gH)} {K247 : gH → Int32 → Int32 → Nat → Nat → Nat → Nat → Nat → Int32 → Int32 → Option (Int32 × gH)} (hkb4 : kb4 + 9458 ≤ 28374) (hnb4 : nb4 + 56546 ≤ 169638) (hkb247 : kb247 + 313 ≤ kb4 + 9261) (hnb247 : nb247 + 1527 ≤ nb4 + 55363) (hK4 : ∀ (h : gH) (l1 : Int32) (l2 : Int32), GX l G M_L_law (g_phS Q Z) (kb4 + 9458) (nb4 + 56546) 4 [some (.ref b), some (.int l1), some (.int l2), none, none, none, none, none, none, none, none, none, none, none, none, none, none, none, none, none, none, none, none, none, none] [] h (K4 h l1 l2)) (hK247 : ∀ (h : gH) (l1 : Int32) (l2 : Int32) (l3 : Nat) (l4 : Nat) (l5 : Nat) (l6 : Nat) (l7 : Nat) (l8 : Int32) (l9 : Int32), GX l G M_L_law (g_phS Q Z) (kb247 + 313) (nb247 + 1527) 247 [some (.ref b), some (.int l1), some (.int l2), some (.ref l3), some (.ref l4), some (.ref l5), some (.ref l6), some (.ref l7), some (.int l8), some (.int l9), none, none, none, none, none, none, none, none, none, none, none, none, none, none, none] [] h (K247 h l1 l2 l3 l4 l5 l6 l7 l8 l9)) (h : gH) (l2 : Int32) (l3 : Nat) (l4 : Nat) (l5 : Nat) (l6 : Nat) (l7 : Nat) (l8 : Int32) (l9 : Int32) (l10 : Nat) (l12 : Int32) (l21 : Int32) (s0 : Int32) : GX l G M_L_law (g_phS Q Z) (kb247 + 217) (nb247 + 797) 907 [some (.ref b), none, some (.int l2), some (.ref l3), some (.ref l4), some (.ref l5), some (.ref l6), some (.ref l7), some (.int l8), some (.int l9), some (.ref l10), none, some (.int l12), none, none, none, none, none, none, none, none, some (.int l21), none, none, none] [.int s0] h (f_L_law_b907 G xs N K4 K247 h l2 l3 l4 l5 l6 l7 l8 l9 l10 l12 l21 s0) := by
  unfold f_L_law_b907
  refine X_istore rfl rfl rfl rfl ?_
  refine X_aload rfl rfl rfl ?_
  refine X_getA rfl rfl (fun v911 => ?_)
  refine X_iload rfl rfl rfl ?_
  refine X_qld9 (t := 7) rfl rfl (by simp) (fun v916 => ?_)
  refine X_nn (fun v916n e916 => ?_)
  subst e916
  refine X_getI rfl rfl (fun v917 => ?_)
  refine X_istore rfl rfl rfl rfl ?_
  refine X_iload rfl rfl rfl ?_
  refine X_bif_eq rfl rfl (fun _ => ?_) (fun _ => ?_)
  · exact X_sub (g_sub_s (g_sub_n (g_sub_s (g_sub_s (g_sub_s (g_sub_s (g_sub_s (g_sub_s (g_sub_s (g_sub_s (g_sub_s (g_sub_s (g_sub_s (g_sub_n (g_sub_n (g_sub_n (g_sub_n (g_sub_n (g_sub_n (g_sub_n (g_sub_n (g_sub_s (g_sub_s (g_sub_n (g_sub_n g_sub_0))))))))))))))))))))))))) (b_L_law_b940 hl hX hret hkb4 hnb4 hkb247 hnb247 hK4 hK247 _ _ _ _ _ _ _ _ _ _ _ _ _ _)
  · refine X_aload rfl rfl rfl ?_
    refine X_getA rfl rfl (fun v929 => ?_)
    refine X_iload rfl rfl rfl ?_
    refine X_qld9 (t := 7) rfl rfl (by simp) (fun v934 => ?_)
    refine X_nn (fun v934n e934 => ?_)
    subst e934
    refine X_iload rfl rfl rfl ?_
    refine X_put rfl rfl rfl rfl rfl (fun h937 => ?_)
    exact X_sub (g_sub_s (g_sub_n (g_sub_s (g_sub_s (g_sub_s (g_sub_s (g_sub_s (g_sub_s (g_sub_s (g_sub_s (g_sub_s (g_sub_s (g_sub_s (g_sub_n (g_sub_n (g_sub_n (g_sub_n (g_sub_n (g_sub_n (g_sub_n (g_sub_n (g_sub_s (g_sub_s (g_sub_n (g_sub_n g_sub_0))))))))))))))))))))))))) (b_L_law_b940 hl hX hret hkb4 hnb4 hkb247 hnb247 hK4 hK247 _ _ _ _ _ _ _ _ _ _ _ _ _ _)
set_option maxRecDepth 100000 in
theorem b_L_law_b1081 {l : Launch} {G : gG} (hl : l.stackTraces = false) {Q : State → Array Value → List Frame → Prop} {Z : State → Prop} {b N : Nat} {xs : Nat → Int32} (hX : g_scr G Q b N xs) (hret : ∀ (pc : Nat) (L : List (Option Value)) (h : gH) (k n : Nat) (v : Int32), decode code pc = .ok (.ireturn, 1) → k ≤ 600086 → n ≤ 7301442 → GX l G M_L_law (g_phS Q Z) k n pc L [.int v] h (some (v, h))) {kb4 nb4 : Nat} {kb247 nb247 : Nat} {K4 : gH → Int32 → Int32 → Option (Int32 × gH)} {K247 : gH → Int32 → Int32 → Nat → Nat → Nat → Nat → Nat → Int32 → Int32 → Option (Int32 × gH)} (hkb4 : kb4 + 9458 ≤ 28374) (hnb4 : nb4 + 56546 ≤ 169638) (hkb247 : kb247 + 313 ≤ kb4 + 9261) (hnb247 : nb247 + 1527 ≤ nb4 + 55363) (hK4 : ∀ (h : gH) (l1 : Int32) (l2 : Int32), GX l G M_L_law (g_phS Q Z) (kb4 + 9458) (nb4 + 56546) 4 [some (.ref b), some (.int l1), some (.int l2), none, none, none, none, none, none, none, none, none, none, none, none, none, none, none, none, none, none, none, none, none, none] [] h (K4 h l1 l2)) (hK247 : ∀ (h : gH) (l1 : Int32) (l2 : Int32) (l3 : Nat) (l4 : Nat) (l5 : Nat) (l6 : Nat) (l7 : Nat) (l8 : Int32) (l9 : Int32), GX l G M_L_law (g_phS Q Z) (kb247 + 313) (nb247 + 1527) 247 [some (.ref b), some (.int l1), some (.int l2), some (.ref l3), some (.ref l4), some (.ref l5), some (.ref l6), some (.ref l7), some (.int l8), some (.int l9), none, none, none, none, none, none, none, none, none, none, none, none, none, none, none] [] h (K247 h l1 l2 l3 l4 l5 l6 l7 l8 l9)) (h : gH) (l2 : Int32) (l3 : Nat) (l4 : Nat) (l5 : Nat) (l6 : Nat) (l7 : Nat) (l8 : Int32) (l9 : Int32) (l10 : Nat) (l11 : Int32) (s0 : Int32) : GX l G M_L_law (g_phS Q Z) (kb247 + 218) (nb247 + 803) 1081 [some (.ref b), none, some (.int l2), some (.ref l3), some (.ref l4), some (.ref l5), some (.ref l6), some (.ref l7), some (.int l8), some (.int l9), some (.ref l10), some (.int l11), none, none, none, none, none, none, none, none, none, none, none, none, none] [.int s0] h (f_L_law_b1081 G xs N K4 K247 h l2 l3 l4 l5 l6 l7 l8 l9 l10 l11 s0) := by
  unfold f_L_law_b1081
  refine X_istore_n rfl rfl rfl rfl ?_
  refine X_goto rfl rfl ?_
  refine X_wid (k' := kb247 + 294) (n' := nb247 + 1413) (by omega) (by omega) ?_
  exact X_sub (g_sub_s (g_sub_s (g_sub_s (g_sub_s (g_sub_s (g_sub_s (g_sub_s (g_sub_s (g_sub_s (g_sub_s (g_sub_s (g_sub_s (g_sub_n (g_sub_n (g_sub_n (g_sub_n (g_sub_n (g_sub_n (g_sub_n (g_sub_n (g_sub_n (g_sub_n (g_sub_n (g_sub_n (g_sub_n g_sub_0))))))))))))))))))))))))) (b_L_law_b1159 hl hX hret hkb4 hnb4 hkb247 hnb247 hK4 hK247 hK345 _ _ _ _ _ _ _ _ _ _ _ _)
set_option maxRecDepth 100000 in
theorem b_L_law_b1073 {l : Launch} {G : gG} (hl : l.stackTraces = false) {Q : State → Array Value → List Frame → Prop} {Z : State → Prop} {b N : Nat} {xs : Nat → Int32} (hX : g_scr G Q b N xs) (hret : ∀ (pc : Nat) (L : List (Option Value)) (h : gH) (k n : Nat) (v : Int32), decode code pc = .ok (.ireturn, 1) → k ≤ 600086 → n ≤ 7301442 → GX l G M_L_law (g_phS Q Z) k n pc L [.int v] h (some (v, h))) {kb4 nb4 : Nat} {kb247 nb247 : Nat} {K4 : gH → Int32 → Int32 → Option (Int32 × gH)} {K247 : gH → Int32 → Int32 → Nat → Nat → Nat → Nat → Nat → Int32 → Int32 → Option (Int32 × gH)} (hkb4 : kb4 + 9458 ≤ 28374) (hnb4 : nb4 + 56546 ≤ 169638) (hkb247 : kb247 + 313 ≤ kb4 + 9261) (hnb247 : nb247 + 1527 ≤ nb4 + 55363) (hK4 : ∀ (h : gH) (l1 : Int32) (l2 : Int32), GX l G M_L_law (g_phS Q Z) (kb4 + 9458) (nb4 + 56546) 4 [some (.ref b), some (.int l1), some (.int l2), none, none, none, none, none, none, none, none, none, none, none, none, none, none, none, none, none, none, none, none, none, none] [] h (K4 h l1 l2)) (hK247 : ∀ (h : gH) (l1 : Int32) (l2 : Int32) (l3 : Nat) (l4 : Nat) (l5 : Nat) (l6 : Nat) (l7 : Nat) (l8 : Int32) (l9 : Int32), GX l G M_L_law (g_phS Q Z) (kb247 + 313) (nb247 + 1527) 247 [some (.ref b), some (.int l1), some (.int l2), some (.ref l3), some (.ref l4), some (.ref l5), some (.ref l6), some (.ref l7), some (.int l8), some (.int l9), none, none, none, none, none, none, none, none, none, none, none, none, none, none, none] [] h (K247 h l1 l2 l3 l4 l5 l6 l7 l8 l9)) (h : gH) (l2 : Int32) (l3 : Nat) (l4 : Nat) (l5 : Nat) (l6 : Nat) (l7 : Nat) (l8 : Int32) (l9 : Int32) (l10 : Nat) (l11 : Int32) (s0 : Int32) (s1 : Int32) : GX l G M_L_law (g_phS Q Z) (kb247 + 218) (nb247 + 803) 1073 [some (.ref b), none, some (.int l2), some (.ref l3), some (.ref l4), some (.ref l5), some (.ref l6), some (.ref l7), some (.int l8), some (.int l9), some (.ref l10), some (.int l11), none, none, none, none, none, none, none, none, none, none, none, none, none] [.int s0, .int s1] h (f_L_law_b1073 G xs N K4 K247 h l2 l3 l4 l5 l6 l7 l8 l9 l10 l11 s0 s1) := by
  unfold f_L_law_b1073
  refine X_bicmp_ne rfl rfl (fun _ => ?_) (fun _ => ?_)
  · refine X_iconst (v := 1) rfl rfl (by decide) ?_
    refine X_goto rfl rfl ?_
    exact X_sub (g_sub_s (g_sub_n (g_sub_s (g_sub_s (g_sub_s (g_sub_s (g_sub_s (g_sub_s (g_sub_s (g_sub_s (g_sub_s (g_sub_s (g_sub_n (g_sub_n (g_sub_n (g_sub_n (g_sub_n (g_sub_n (g_sub_n (g_sub_n (g_sub_n (g_sub_n (g_sub_n (g_sub_n (g_sub_n g_sub_0))))))))))))))))))))))))) (b_L_law_b1081 hl hX hret hkb4 hnb4 hkb247 hnb247 hK4 hK247 _ _ _ _ _ _ _ _ _ _ _ _)
  · refine X_iconst (v := 0) rfl rfl (by decide) ?_
    exact X_sub (g_sub_s (g_sub_n (g_sub_s (g_sub_s (g_sub_s (g_sub_s (g_sub_s (g_sub_s (g_sub_s (g_sub_s (g_sub_s (g_sub_s (g_sub_n (g_sub_n (g_sub_n (g_sub_n (g_sub_n (g_sub_n (g_sub_n (g_sub_n (g_sub_n (g_sub_n (g_sub_n (g_sub_n (g_sub_n g_sub_0))))))))))))))))))))))))) (b_L_law_b1081 hl hX hret hkb4 hnb4 hkb247 hnb247 hK4 hK247 _ _ _ _ _ _ _ _ _ _ _ _)
set_option maxRecDepth 100000 in
theorem b_L_law_b1030 {l : Launch} {G : gG} (hl : l.stackTraces = false) {Q : State → Array Value → List Frame → Prop} {Z : State → Prop} {b N : Nat} {xs : Nat → Int32} (hX : g_scr G Q b N xs) (hret : ∀ (pc : Nat) (L : List (Option Value)) (h : gH) (k n : Nat) (v : Int32), decode code pc = .ok (.ireturn, 1) → k ≤ 600086 → n ≤ 7301442 → GX l G M_L_law (g_phS Q Z) k n pc L [.int v] h (some (v, h))) {kb4 nb4 : Nat} {kb247 nb247 : Nat} {K4 : gH → Int32 → Int32 → Option (Int32 × gH)} {K247 : gH → Int32 → Int32 → Nat → Nat → Nat → Nat → Nat → Int32 → Int32 → Option (Int32 × gH)} (hkb4 : kb4 + 9458 ≤ 28374) (hnb4 : nb4 + 56546 ≤ 169638) (hkb247 : kb247 + 313 ≤ kb4 + 9261) (hnb247 : nb247 + 1527 ≤ nb4 + 55363) (hK4 : ∀ (h : gH) (l1 : Int32) (l2 : Int32), GX l G M_L_law (g_phS Q Z) (kb4 + 9458) (nb4 + 56546) 4 [some (.ref b), some (.int l1), some (.int l2), none, none, none, none, none, none, none, none, none, none, none, none, none, none, none, none, none, none, none, none, none, none] [] h (K4 h l1 l2)) (hK247 : ∀ (h : gH) (l1 : Int32) (l2 : Int32) (l3 : Nat) (l4 : Nat) (l5 : Nat) (l6 : Nat) (l7 : Nat) (l8 : Int32) (l9 : Int32), GX l G M_L_law (g_phS Q Z) (kb247 + 313) (nb247 + 1527) 247 [some (.ref b), some (.int l1), some (.int l2), some (.ref l3), some (.ref l4), some (.ref l5), some (.ref l6), some (.ref l7), some (.int l8), some (.int l9), none, none, none, none, none, none, none, none, none, none, none, none, none, none, none] [] h (K247 h l1 l2 l3 l4 l5 l6 l7 l8 l9)) (h : gH) (l2 : Int32) (l3 : Nat) (l4 : Nat) (l5 : Nat) (l6 : Nat) (l7 : Nat) (l8 : Int32) (l9 : Int32) (l10 : Nat) (l23 : Int32) (l24 : Int32) (s0 : Int32) : GX l G M_L_law (g_phS Q Z) (kb247 + 217) (nb247 + 797) 1030 [some (.ref b), none, some (.int l2), some (.ref l3), some (.ref l4), some (.ref l5), some (.ref l6), some (.ref l7), some (.int l8), some (.int l9), some (.ref l10), none, none, none, none, none, none, none, none, none, none, none, none, some (.int l23), some (.int l24)] [.int s0] h (f_L_law_b1030 G xs N K4 K247 h l2 l3 l4 l5 l6 l7 l8 l9 l10 l23 l24 s0) := by
  unfold f_L_law_b1030
  refine X_istore rfl rfl rfl rfl ?_
  refine X_aload_n rfl rfl rfl ?_
  refine X_iload rfl rfl rfl ?_
  refine X_kY_I (k1 := kb247 + 218) (n1 := nb247 + 803) (M' := M_L_cancel) (nA := 2) (As := [.ref l3, .int l23]) (st := []) rfl rfl (by decide +kernel) rfl rfl rfl (by show kb247 + 217 + 1 = kb247 + 218; omega) (by show nb247 + 797 + 6 = nb247 + 803; omega) (X_ble (by show kb247 + 218 ≤ 600086; omega)) (X_ble (by show nb247 + 803 ≤ 7301442; omega)) (fun _ _ e => cy_L_cancel hl  e) (fun y1035 => ?_)
  refine X_iload rfl rfl rfl ?_
  refine X_bif_eq rfl rfl (fun _ => ?_) (fun _ => ?_)
  · refine X_iload rfl rfl rfl ?_
    refine X_bif_eq rfl rfl (fun _ => ?_) (fun _ => ?_)
    · refine X_ldc (v := -2000000097) rfl rfl (by decide +kernel) ?_
      exact X_sub (g_sub_s (g_sub_n (g_sub_s (g_sub_s (g_sub_s (g_sub_s (g_sub_s (g_sub_s (g_sub_s (g_sub_s (g_sub_s (g_sub_s (g_sub_n (g_sub_n (g_sub_n (g_sub_n (g_sub_n (g_sub_n (g_sub_n (g_sub_n (g_sub_n (g_sub_n (g_sub_n (g_sub_n (g_sub_n g_sub_0))))))))))))))))))))))))) (b_L_law_b1073 hl hX hret hkb4 hnb4 hkb247 hnb247 hK4 hK247 _ _ _ _ _ _ _ _ _ _ _ _ _)
    · refine X_ldc (v := -2000000099) rfl rfl (by decide +kernel) ?_
      refine X_goto rfl rfl ?_
      exact X_sub (g_sub_s (g_sub_n (g_sub_s (g_sub_s (g_sub_s (g_sub_s (g_sub_s (g_sub_s (g_sub_s (g_sub_s (g_sub_s (g_sub_s (g_sub_n (g_sub_n (g_sub_n (g_sub_n (g_sub_n (g_sub_n (g_sub_n (g_sub_n (g_sub_n (g_sub_n (g_sub_n (g_sub_n (g_sub_n g_sub_0))))))))))))))))))))))))) (b_L_law_b1073 hl hX hret hkb4 hnb4 hkb247 hnb247 hK4 hK247 _ _ _ _ _ _ _ _ _ _ _ _ _)
  · refine X_aload rfl rfl rfl ?_
    refine X_iload rfl rfl rfl ?_
    refine X_kV_I (k1 := kb247 + 218) (n1 := nb247 + 803) (M' := M_X10_cancels) (nA := 1) (As := [.int l23]) (st := [.int y1035.1]) (b := l6) (ci := 10) rfl rfl (by decide +kernel) rfl rfl rfl rfl (by show kb247 + 218 + 0 = kb247 + 218; omega) (by show nb247 + 803 + 0 = nb247 + 803; omega) (X_ble (by show kb247 + 218 ≤ 600086; omega)) (X_ble (by show nb247 + 803 ≤ 7301442; omega)) (fun _ _ e => ct_X10_cancels  e) (fun y1047 => ?_)
    refine X_bif_eq rfl rfl (fun _ => ?_) (fun _ => ?_)
    · refine X_iconst (v := 0) rfl rfl (by decide) ?_
      refine X_goto rfl rfl ?_
      exact X_sub (g_sub_s (g_sub_n (g_sub_s (g_sub_s (g_sub_s (g_sub_s (g_sub_s (g_sub_s (g_sub_s (g_sub_s (g_sub_s (g_sub_s (g_sub_n (g_sub_n (g_sub_n (g_sub_n (g_sub_n (g_sub_n (g_sub_n (g_sub_n (g_sub_n (g_sub_n (g_sub_n (g_sub_n (g_sub_n g_sub_0))))))))))))))))))))))))) (b_L_law_b1073 hl hX hret hkb4 hnb4 hkb247 hnb247 hK4 hK247 _ _ _ _ _ _ _ _ _ _ _ _ _)
    · refine X_iconst (v := 1) rfl rfl (by decide) ?_
      refine X_goto rfl rfl ?_
      exact X_sub (g_sub_s (g_sub_n (g_sub_s (g_sub_s (g_sub_s (g_sub_s (g_sub_s (g_sub_s (g_sub_s (g_sub_s (g_sub_s (g_sub_s (g_sub_n (g_sub_n (g_sub_n (g_sub_n (g_sub_n (g_sub_n (g_sub_n (g_sub_n (g_sub_n (g_sub_n (g_sub_n (g_sub_n (g_sub_n g_sub_0))))))))))))))))))))))))) (b_L_law_b1073 hl hX hret hkb4 hnb4 hkb247 hnb247 hK4 hK247 _ _ _ _ _ _ _ _ _ _ _ _ _)
set_option maxRecDepth 100000 in
theorem b_L_law_b1029 {l : Launch} {G : gG} (hl : l.stackTraces = false) {Q : State → Array Value → List Frame → Prop} {Z : State → Prop} {b N : Nat} {xs : Nat → Int32} (hX : g_scr G Q b N xs) (hret : ∀ (pc : Nat) (L : List (Option Value)) (h : gH) (k n : Nat) (v : Int32), decode code pc = .ok (.ireturn, 1) → k ≤ 600086 → n ≤ 7301442 → GX l G M_L_law (g_phS Q Z) k n pc L [.int v] h (some (v, h))) {kb4 nb4 : Nat} {kb247 nb247 : Nat} {K4 : gH → Int32 → Int32 → Option (Int32 × gH)} {K247 : gH → Int32 → Int32 → Nat → Nat → Nat → Nat → Nat → Int32 → Int32 → Option (Int32 × gH)} (hkb4 : kb4 + 9458 ≤ 28374) (hnb4 : nb4 + 56546 ≤ 169638) (hkb247 : kb247 + 313 ≤ kb4 + 9261) (hnb247 : nb247 + 1527 ≤ nb4 + 55363) (hK4 : ∀ (h : gH) (l1 : Int32) (l2 : Int32), GX l G M_L_law (g_phS Q Z) (kb4 + 9458) (nb4 + 56546) 4 [some (.ref b), some (.int l1), some (.int l2), none, none, none, none, none, none, none, none, none, none, none, none, none, none, none, none, none, none, none, none, none, none] [] h (K4 h l1 l2)) (hK247 : ∀ (h : gH) (l1 : Int32) (l2 : Int32) (l3 : Nat) (l4 : Nat) (l5 : Nat) (l6 : Nat) (l7 : Nat) (l8 : Int32) (l9 : Int32), GX l G M_L_law (g_phS Q Z) (kb247 + 313) (nb247 + 1527) 247 [some (.ref b), some (.int l1), some (.int l2), some (.ref l3), some (.ref l4), some (.ref l5), some (.ref l6), some (.ref l7), some (.int l8), some (.int l9), none, none, none, none, none, none, none, none, none, none, none, none, none, none, none] [] h (K247 h l1 l2 l3 l4 l5 l6 l7 l8 l9)) (h : gH) (l2 : Int32) (l3 : Nat) (l4 : Nat) (l5 : Nat) (l6 : Nat) (l7 : Nat) (l8 : Int32) (l9 : Int32) (l10 : Nat) (l23 : Int32) (l24 : Int32) : GX l G M_L_law (g_phS Q Z) (kb247 + 217) (nb247 + 797) 1029 [some (.ref b), none, some (.int l2), some (.ref l3), some (.ref l4), some (.ref l5), some (.ref l6), some (.ref l7), some (.int l8), some (.int l9), some (.ref l10), none, none, none, none, none, none, none, none, none, none, none, none, some (.int l23), some (.int l24)] [] h (f_L_law_b1029 G xs N K4 K247 h l2 l3 l4 l5 l6 l7 l8 l9 l10 l23 l24) := by
  unfold f_L_law_b1029
  refine X_iconst (v := 0) rfl rfl (by decide) ?_
  exact X_sub (g_sub_s (g_sub_n (g_sub_s (g_sub_s (g_sub_s (g_sub_s (g_sub_s (g_sub_s (g_sub_s (g_sub_s (g_sub_s (g_sub_n (g_sub_n (g_sub_n (g_sub_n (g_sub_n (g_sub_n (g_sub_n (g_sub_n (g_sub_n (g_sub_n (g_sub_n (g_sub_n (g_sub_s (g_sub_s g_sub_0))))))))))))))))))))))))) (b_L_law_b1030 hl hX hret hkb4 hnb4 hkb247 hnb247 hK4 hK247 _ _ _ _ _ _ _ _ _ _ _ _ _)
set_option maxRecDepth 100000 in
theorem b_L_law_b1003 {l : Launch} {G : gG} (hl : l.stackTraces = false) {Q : State → Array Value → List Frame → Prop} {Z : State → Prop} {b N : Nat} {xs : Nat → Int32} (hX : g_scr G Q b N xs) (hret : ∀ (pc : Nat) (L : List (Option Value)) (h : gH) (k n : Nat) (v : Int32), decode code pc = .ok (.ireturn, 1) → k ≤ 600086 → n ≤ 7301442 → GX l G M_L_law (g_phS Q Z) k n pc L [.int v] h (some (v, h))) {kb4 nb4 : Nat} {kb247 nb247 : Nat} {K4 : gH → Int32 → Int32 → Option (Int32 × gH)} {K247 : gH → Int32 → Int32 → Nat → Nat → Nat → Nat → Nat → Int32 → Int32 → Option (Int32 × gH)} (hkb4 : kb4 + 9458 ≤ 28374) (hnb4 : nb4 + 56546 ≤ 169638) (hkb247 : kb247 + 313 ≤ kb4 + 9261) (hnb247 : nb247 + 1527 ≤ nb4 + 55363) (hK4 : ∀ (h : gH) (l1 : Int32) (l2 : Int32), GX l G M_L_law (g_phS Q Z) (kb4 + 9458) (nb4 + 56546) 4 [some (.ref b), some (.int l1), some (.int l2), none, none, none, none, none, none, none, none, none, none, none, none, none, none, none, none, none, none, none, none, none, none] [] h (K4 h l1 l2)) (hK247 : ∀ (h : gH) (l1 : Int32) (l2 : Int32) (l3 : Nat) (l4 : Nat) (l5 : Nat) (l6 : Nat) (l7 : Nat) (l8 : Int32) (l9 : Int32), GX l G M_L_law (g_phS Q Z) (kb247 + 313) (nb247 + 1527) 247 [some (.ref b), some (.int l1), some (.int l2), some (.ref l3), some (.ref l4), some (.ref l5), some (.ref l6), some (.ref l7), some (.int l8), some (.int l9), none, none, none, none, none, none, none, none, none, none, none, none, none, none, none] [] h (K247 h l1 l2 l3 l4 l5 l6 l7 l8 l9)) (h : gH) (l2 : Int32) (l3 : Nat) (l4 : Nat) (l5 : Nat) (l6 : Nat) (l7 : Nat) (l8 : Int32) (l9 : Int32) (l10 : Nat) (l23 : Int32) (s0 : Int32) : GX l G M_L_law (g_phS Q Z) (kb247 + 217) (nb247 + 797) 1003 [some (.ref b), none, some (.int l2), some (.ref l3), some (.ref l4), some (.ref l5), some (.ref l6), some (.ref l7), some (.int l8), some (.int l9), some (.ref l10), none, none, none, none, none, none, none, none, none, none, none, none, some (.int l23), none] [.int s0] h (f_L_law_b1003 G xs N K4 K247 h l2 l3 l4 l5 l6 l7 l8 l9 l10 l23 s0) := by
  unfold f_L_law_b1003
  refine X_istore rfl rfl rfl rfl ?_
  refine X_iload rfl rfl rfl ?_
  refine X_bif_eq rfl rfl (fun _ => ?_) (fun _ => ?_)
  · exact X_sub (g_sub_s (g_sub_n (g_sub_s (g_sub_s (g_sub_s (g_sub_s (g_sub_s (g_sub_s (g_sub_s (g_sub_s (g_sub_s (g_sub_n (g_sub_n (g_sub_n (g_sub_n (g_sub_n (g_sub_n (g_sub_n (g_sub_n (g_sub_n (g_sub_n (g_sub_n (g_sub_n (g_sub_s (g_sub_s g_sub_0))))))))))))))))))))))))) (b_L_law_b1029 hl hX hret hkb4 hnb4 hkb247 hnb247 hK4 hK247 _ _ _ _ _ _ _ _ _ _ _ _)
  · refine X_aload rfl rfl rfl ?_
    refine X_getA rfl rfl (fun v1012 => ?_)
    refine X_iload rfl rfl rfl ?_
    refine X_qld9 (t := 8) rfl rfl (by simp) (fun v1017 => ?_)
    refine X_nn (fun v1017n e1017 => ?_)
    subst e1017
    refine X_getI rfl rfl (fun v1018 => ?_)
    refine X_iconst (v := 2) rfl rfl (by decide) ?_
    refine X_bicmp_ge rfl rfl (fun _ => ?_) (fun _ => ?_)
    · refine X_iconst (v := 1) rfl rfl (by decide) ?_
      refine X_goto rfl rfl ?_
      exact X_sub (g_sub_s (g_sub_n (g_sub_s (g_sub_s (g_sub_s (g_sub_s (g_sub_s (g_sub_s (g_sub_s (g_sub_s (g_sub_s (g_sub_n (g_sub_n (g_sub_n (g_sub_n (g_sub_n (g_sub_n (g_sub_n (g_sub_n (g_sub_n (g_sub_n (g_sub_n (g_sub_n (g_sub_s (g_sub_s g_sub_0))))))))))))))))))))))))) (b_L_law_b1030 hl hX hret hkb4 hnb4 hkb247 hnb247 hK4 hK247 _ _ _ _ _ _ _ _ _ _ _ _ _)
    · exact X_sub (g_sub_s (g_sub_n (g_sub_s (g_sub_s (g_sub_s (g_sub_s (g_sub_s (g_sub_s (g_sub_s (g_sub_s (g_sub_s (g_sub_n (g_sub_n (g_sub_n (g_sub_n (g_sub_n (g_sub_n (g_sub_n (g_sub_n (g_sub_n (g_sub_n (g_sub_n (g_sub_n (g_sub_s (g_sub_s g_sub_0))))))))))))))))))))))))) (b_L_law_b1029 hl hX hret hkb4 hnb4 hkb247 hnb247 hK4 hK247 _ _ _ _ _ _ _ _ _ _ _ _)
set_option maxRecDepth 100000 in
theorem b_L_law_b1158 {l : Launch} {G : gG} (hl : l.stackTraces = false) {Q : State → Array Value → List Frame → Prop} {Z : State → Prop} {b N : Nat} {xs : Nat → Int32} (hX : g_scr G Q b N xs) (hret : ∀ (pc : Nat) (L : List (Option Value)) (h : gH) (k n : Nat) (v : Int32), decode code pc = .ok (.ireturn, 1) → k ≤ 600086 → n ≤ 7301442 → GX l G M_L_law (g_phS Q Z) k n pc L [.int v] h (some (v, h))) {kb4 nb4 : Nat} {kb247 nb247 : Nat} {K4 : gH → Int32 → Int32 → Option (Int32 × gH)} {K247 : gH → Int32 → Int32 → Nat → Nat → Nat → Nat → Nat → Int32 → Int32 → Option (Int32 × gH)} (hkb4 : kb4 + 9458 ≤ 28374) (hnb4 : nb4 + 56546 ≤ 169638) (hkb247 : kb247 + 313 ≤ kb4 + 9261) (hnb247 : nb247 + 1527 ≤ nb4 + 55363) (hK4 : ∀ (h : gH) (l1 : Int32) (l2 : Int32), GX l G M_L_law (g_phS Q Z) (kb4 + 9458) (nb4 + 56546) 4 [some (.ref b), some (.int l1), some (.int l2), none, none, none, none, none, none, none, none, none, none, none, none, none, none, none, none, none, none, none, none, none, none] [] h (K4 h l1 l2)) (hK247 : ∀ (h : gH) (l1 : Int32) (l2 : Int32) (l3 : Nat) (l4 : Nat) (l5 : Nat) (l6 : Nat) (l7 : Nat) (l8 : Int32) (l9 : Int32), GX l G M_L_law (g_phS Q Z) (kb247 + 313) (nb247 + 1527) 247 [some (.ref b), some (.int l1), some (.int l2), some (.ref l3), some (.ref l4), some (.ref l5), some (.ref l6), some (.ref l7), some (.int l8), some (.int l9), none, none, none, none, none, none, none, none, none, none, none, none, none, none, none] [] h (K247 h l1 l2 l3 l4 l5 l6 l7 l8 l9)) (h : gH) (l2 : Int32) (l3 : Nat) (l4 : Nat) (l5 : Nat) (l6 : Nat) (l7 : Nat) (l8 : Int32) (l9 : Int32) (l10 : Nat) (l11 : Int32) (s0 : Int32) : GX l G M_L_law (g_phS Q Z) (kb247 + 220) (nb247 + 815) 1158 [some (.ref b), none, some (.int l2), some (.ref l3), some (.ref l4), some (.ref l5), some (.ref l6), some (.ref l7), some (.int l8), some (.int l9), some (.ref l10), some (.int l11), none, none, none, none, none, none, none, none, none, none, none, none, none] [.int s0] h (f_L_law_b1158 G xs N K4 K247 h l2 l3 l4 l5 l6 l7 l8 l9 l10 l11 s0) := by
  unfold f_L_law_b1158
  refine X_istore_n rfl rfl rfl rfl ?_
  refine X_wid (k' := kb247 + 294) (n' := nb247 + 1413) (by omega) (by omega) ?_
  exact X_sub (g_sub_s (g_sub_s (g_sub_s (g_sub_s (g_sub_s (g_sub_s (g_sub_s (g_sub_s (g_sub_s (g_sub_s (g_sub_s (g_sub_s (g_sub_n (g_sub_n (g_sub_n (g_sub_n (g_sub_n (g_sub_n (g_sub_n (g_sub_n (g_sub_n (g_sub_n (g_sub_n (g_sub_n (g_sub_n g_sub_0))))))))))))))))))))))))) (b_L_law_b1159 hl hX hret hkb4 hnb4 hkb247 hnb247 hK4 hK247 hK345 _ _ _ _ _ _ _ _ _ _ _ _)
set_option maxRecDepth 100000 in
theorem b_L_law_b1157 {l : Launch} {G : gG} (hl : l.stackTraces = false) {Q : State → Array Value → List Frame → Prop} {Z : State → Prop} {b N : Nat} {xs : Nat → Int32} (hX : g_scr G Q b N xs) (hret : ∀ (pc : Nat) (L : List (Option Value)) (h : gH) (k n : Nat) (v : Int32), decode code pc = .ok (.ireturn, 1) → k ≤ 600086 → n ≤ 7301442 → GX l G M_L_law (g_phS Q Z) k n pc L [.int v] h (some (v, h))) {kb4 nb4 : Nat} {kb247 nb247 : Nat} {K4 : gH → Int32 → Int32 → Option (Int32 × gH)} {K247 : gH → Int32 → Int32 → Nat → Nat → Nat → Nat → Nat → Int32 → Int32 → Option (Int32 × gH)} (hkb4 : kb4 + 9458 ≤ 28374) (hnb4 : nb4 + 56546 ≤ 169638) (hkb247 : kb247 + 313 ≤ kb4 + 9261) (hnb247 : nb247 + 1527 ≤ nb4 + 55363) (hK4 : ∀ (h : gH) (l1 : Int32) (l2 : Int32), GX l G M_L_law (g_phS Q Z) (kb4 + 9458) (nb4 + 56546) 4 [some (.ref b), some (.int l1), some (.int l2), none, none, none, none, none, none, none, none, none, none, none, none, none, none, none, none, none, none, none, none, none, none] [] h (K4 h l1 l2)) (hK247 : ∀ (h : gH) (l1 : Int32) (l2 : Int32) (l3 : Nat) (l4 : Nat) (l5 : Nat) (l6 : Nat) (l7 : Nat) (l8 : Int32) (l9 : Int32), GX l G M_L_law (g_phS Q Z) (kb247 + 313) (nb247 + 1527) 247 [some (.ref b), some (.int l1), some (.int l2), some (.ref l3), some (.ref l4), some (.ref l5), some (.ref l6), some (.ref l7), some (.int l8), some (.int l9), none, none, none, none, none, none, none, none, none, none, none, none, none, none, none] [] h (K247 h l1 l2 l3 l4 l5 l6 l7 l8 l9)) (h : gH) (l2 : Int32) (l3 : Nat) (l4 : Nat) (l5 : Nat) (l6 : Nat) (l7 : Nat) (l8 : Int32) (l9 : Int32) (l10 : Nat) (l11 : Int32) : GX l G M_L_law (g_phS Q Z) (kb247 + 220) (nb247 + 815) 1157 [some (.ref b), none, some (.int l2), some (.ref l3), some (.ref l4), some (.ref l5), some (.ref l6), some (.ref l7), some (.int l8), some (.int l9), some (.ref l10), some (.int l11), none, none, none, none, none, none, none, none, none, none, none, none, none] [] h (f_L_law_b1157 G xs N K4 K247 h l2 l3 l4 l5 l6 l7 l8 l9 l10 l11) := by
  unfold f_L_law_b1157
  refine X_iconst (v := 0) rfl rfl (by decide) ?_
  exact X_sub (g_sub_s (g_sub_n (g_sub_s (g_sub_s (g_sub_s (g_sub_s (g_sub_s (g_sub_s (g_sub_s (g_sub_s (g_sub_s (g_sub_s (g_sub_n (g_sub_n (g_sub_n (g_sub_n (g_sub_n (g_sub_n (g_sub_n (g_sub_n (g_sub_n (g_sub_n (g_sub_n (g_sub_n (g_sub_n g_sub_0))))))))))))))))))))))))) (b_L_law_b1158 hl hX hret hkb4 hnb4 hkb247 hnb247 hK4 hK247 _ _ _ _ _ _ _ _ _ _ _ _)
set_option maxRecDepth 100000 in
theorem b_L_law_b247 {l : Launch} {G : gG} (hl : l.stackTraces = false) {Q : State → Array Value → List Frame → Prop} {Z : State → Prop} {b N : Nat} {xs : Nat → Int32} (hX : g_scr G Q b N xs) (hret : ∀ (pc : Nat) (L : List (Option Value)) (h : gH) (k n : Nat) (v : Int32), decode code pc = .ok (.ireturn, 1) → k ≤ 600086 → n ≤ 7301442 → GX l G M_L_law (g_phS Q Z) k n pc L [.int v] h (some (v, h))) {kb4 nb4 : Nat} {K4 : gH → Int32 → Int32 → Option (Int32 × gH)} (hkb4 : kb4 + 9458 ≤ 28374) (hnb4 : nb4 + 56546 ≤ 169638) (hK4 : ∀ (h : gH) (l1 : Int32) (l2 : Int32), GX l G M_L_law (g_phS Q Z) (kb4 + 9458) (nb4 + 56546) 4 [some (.ref b), some (.int l1), some (.int l2), none, none, none, none, none, none, none, none, none, none, none, none, none, none, none, none, none, none, none, none, none, none] [] h (K4 h l1 l2)) : ∀ (n kb247 nb247 : Nat), kb247 + n * 313 ≤ kb4 + 9261 → nb247 + n * 1527 ≤ nb4 + 55363 → ∀ (h : gH) (l1 : Int32) (l2 : Int32) (l3 : Nat) (l4 : Nat) (l5 : Nat) (l6 : Nat) (l7 : Nat) (l8 : Int32) (l9 : Int32), GX l G M_L_law (g_phS Q Z) kb247 nb247 247 [some (.ref b), some (.int l1), some (.int l2), some (.ref l3), some (.ref l4), some (.ref l5), some (.ref l6), some (.ref l7), some (.int l8), some (.int l9), none, none, none, none, none, none, none, none, none, none, none, none, none, none, none] [] h (f_L_law_b247 G xs N K4 n h l1 l2 l3 l4 l5 l6 l7 l8 l9) := by
  intro n
  induction n with
  | zero => intros; exact X_none
  | succ n ih =>
    intro kb247 nb247 hk0 hn0 h l1 l2 l3 l4 l5 l6 l7 l8 l9
    have hkb247 : kb247 + 313 ≤ kb4 + 9261 := by omega
    have hnb247 : nb247 + 1527 ≤ nb4 + 55363 := by omega
    rw [f_L_law_b247]
    refine X_iload rfl rfl rfl ?_
    refine X_bipush (v := 24) rfl rfl (by decide) ?_
    refine X_bicmp_ge rfl rfl (fun _ => ?_) (fun _ => ?_)
    · refine X_iload_n rfl rfl rfl ?_
      refine X_bif_eq rfl rfl (fun _ => ?_) (fun _ => ?_)
      · refine X_wid (k' := kb4 + 9261) (n' := nb4 + 55363) (by omega) (by omega) ?_
        exact X_sub (g_sub_s (g_sub_s (g_sub_s (g_sub_s (g_sub_n (g_sub_n (g_sub_n (g_sub_s (g_sub_s (g_sub_n (g_sub_n (g_sub_n (g_sub_n (g_sub_n (g_sub_n (g_sub_n (g_sub_n (g_sub_n (g_sub_n (g_sub_n (g_sub_n (g_sub_n (g_sub_n (g_sub_n (g_sub_n g_sub_0))))))))))))))))))))))))) (b_L_law_b1225 hl hX hret hkb4 hnb4 hK4 (ih _ _ (by omega) (by omega)) _ _ _ _ _ _)
      · refine X_aload rfl rfl rfl ?_
        refine X_kV_A (k1 := kb247 + 217) (n1 := nb247 + 797) (M' := M_X10_copy) (nA := 0) (As := []) (st := []) (b := l6) (ci := 10) rfl rfl (by decide +kernel) rfl rfl rfl rfl (by show kb247 + 217 = kb247 + 217; omega) (by show nb247 + 797 = nb247 + 797; omega) (X_ble (by show kb247 + 217 ≤ 600086; omega)) (X_ble (by show nb247 + 797 ≤ 7301442; omega)) (fun _ _ e => ct_X10_copy  e) (fun y260 => ?_)
        refine X_astore rfl rfl rfl rfl ?_
        refine X_iconst (v := 1) rfl rfl (by decide) ?_
        refine X_istore rfl rfl rfl rfl ?_
        refine X_aload rfl rfl rfl ?_
        refine X_iconst (v := 2) rfl rfl (by decide) ?_
        refine X_kV_I (k1 := kb247 + 217) (n1 := nb247 + 797) (M' := M_X11_below) (nA := 1) (As := [.int 2]) (st := []) (b := l5) (ci := 11) rfl rfl (by decide +kernel) rfl rfl rfl rfl (by show kb247 + 217 + 0 = kb247 + 217; omega) (by show nb247 + 797 + 0 = nb247 + 797; omega) (X_ble (by show kb247 + 217 ≤ 600086; omega)) (X_ble (by show nb247 + 797 ≤ 7301442; omega)) (fun _ _ e => ct_X11_below  e) (fun y271 => ?_)
        refine X_istore rfl rfl rfl rfl ?_
        refine X_aload rfl rfl rfl ?_
        refine X_bipush (v := 9) rfl rfl (by decide) ?_
        refine X_kV_I (k1 := kb247 + 217) (n1 := nb247 + 797) (M' := M_X11_below) (nA := 1) (As := [.int 9]) (st := []) (b := l5) (ci := 11) rfl rfl (by decide +kernel) rfl rfl rfl rfl (by show kb247 + 217 + 0 = kb247 + 217; omega) (by show nb247 + 797 + 0 = nb247 + 797; omega) (X_ble (by show kb247 + 217 ≤ 600086; omega)) (X_ble (by show nb247 + 797 ≤ 7301442; omega)) (fun _ _ e => ct_X11_below  e) (fun y280 => ?_)
        refine X_if (fun c283_0 => ?_) (fun c283_0 => ?_)
        · refine X_tswIn (v := 0) (len := 45) (tgt := 328) (off := 45) rfl rfl c283_0 (by decide) (by decide) rfl rfl ?_
          refine X_iconst (v := 1) rfl rfl (by decide) ?_
          refine X_aload rfl rfl rfl ?_
          refine X_bipush (v := 12) rfl rfl (by decide) ?_
          refine X_kV_I (k1 := kb247 + 217) (n1 := nb247 + 797) (M' := M_X11_below) (nA := 1) (As := [.int 12]) (st := [.int 1]) (b := l5) (ci := 11) rfl rfl (by decide +kernel) rfl rfl rfl rfl (by show kb247 + 217 + 0 = kb247 + 217; omega) (by show nb247 + 797 + 0 = nb247 + 797; omega) (X_ble (by show kb247 + 217 ≤ 600086; omega)) (X_ble (by show nb247 + 797 ≤ 7301442; omega)) (fun _ _ e => ct_X11_below  e) (fun y333 => ?_)
          refine X_iadd rfl rfl ?_
          refine X_istore rfl rfl rfl rfl ?_
          refine X_iconst (v := 0) rfl rfl (by decide) ?_
          refine X_istore rfl rfl rfl rfl ?_
          refine X_iconst (v := 0) rfl rfl (by decide) ?_
          refine X_istore rfl rfl rfl rfl ?_
          exact X_sub (g_sub_s (g_sub_n (g_sub_s (g_sub_s (g_sub_s (g_sub_s (g_sub_s (g_sub_s (g_sub_s (g_sub_s (g_sub_s (g_sub_s (g_sub_n (g_sub_s (g_sub_s (g_sub_s (g_sub_n (g_sub_n (g_sub_n (g_sub_n (g_sub_n (g_sub_n (g_sub_n (g_sub_n (g_sub_n g_sub_0))))))))))))))))))))))))) (b_L_law_b345 hl hX hret hkb4 hnb4 hkb247 hnb247 hK4 (ih _ _ (by omega) (by omega)) g_N _ _ _ _ _ _ _ _ _ _ _ _ _ _)
        · refine X_if (fun c283_1 => ?_) (fun c283_1 => ?_)
          · refine X_tswIn (v := 1) (len := 45) (tgt := 328) (off := 45) rfl rfl c283_1 (by decide) (by decide) rfl rfl ?_
            refine X_iconst (v := 1) rfl rfl (by decide) ?_
            refine X_aload rfl rfl rfl ?_
            refine X_bipush (v := 12) rfl rfl (by decide) ?_
            refine X_kV_I (k1 := kb247 + 217) (n1 := nb247 + 797) (M' := M_X11_below) (nA := 1) (As := [.int 12]) (st := [.int 1]) (b := l5) (ci := 11) rfl rfl (by decide +kernel) rfl rfl rfl rfl (by show kb247 + 217 + 0 = kb247 + 217; omega) (by show nb247 + 797 + 0 = nb247 + 797; omega) (X_ble (by show kb247 + 217 ≤ 600086; omega)) (X_ble (by show nb247 + 797 ≤ 7301442; omega)) (fun _ _ e => ct_X11_below  e) (fun y333 => ?_)
            refine X_iadd rfl rfl ?_
            refine X_istore rfl rfl rfl rfl ?_
            refine X_iconst (v := 0) rfl rfl (by decide) ?_
            refine X_istore rfl rfl rfl rfl ?_
            refine X_iconst (v := 0) rfl rfl (by decide) ?_
            refine X_istore rfl rfl rfl rfl ?_
            exact X_sub (g_sub_s (g_sub_n (g_sub_s (g_sub_s (g_sub_s (g_sub_s (g_sub_s (g_sub_s (g_sub_s (g_sub_s (g_sub_s (g_sub_s (g_sub_n (g_sub_s (g_sub_s (g_sub_s (g_sub_n (g_sub_n (g_sub_n (g_sub_n (g_sub_n (g_sub_n (g_sub_n (g_sub_n (g_sub_n g_sub_0))))))))))))))))))))))))) (b_L_law_b345 hl hX hret hkb4 hnb4 hkb247 hnb247 hK4 (ih _ _ (by omega) (by omega)) g_N _ _ _ _ _ _ _ _ _ _ _ _ _ _)
          · refine X_if (fun c283_2 => ?_) (fun c283_2 => ?_)
            · refine X_tswIn (v := 2) (len := 45) (tgt := 328) (off := 45) rfl rfl c283_2 (by decide) (by decide) rfl rfl ?_
              refine X_iconst (v := 1) rfl rfl (by decide) ?_
              refine X_aload rfl rfl rfl ?_
              refine X_bipush (v := 12) rfl rfl (by decide) ?_
              refine X_kV_I (k1 := kb247 + 217) (n1 := nb247 + 797) (M' := M_X11_below) (nA := 1) (As := [.int 12]) (st := [.int 1]) (b := l5) (ci := 11) rfl rfl (by decide +kernel) rfl rfl rfl rfl (by show kb247 + 217 + 0 = kb247 + 217; omega) (by show nb247 + 797 + 0 = nb247 + 797; omega) (X_ble (by show kb247 + 217 ≤ 600086; omega)) (X_ble (by show nb247 + 797 ≤ 7301442; omega)) (fun _ _ e => ct_X11_below  e) (fun y333 => ?_)
              refine X_iadd rfl rfl ?_
              refine X_istore rfl rfl rfl rfl ?_
              refine X_iconst (v := 0) rfl rfl (by decide) ?_
              refine X_istore rfl rfl rfl rfl ?_
              refine X_iconst (v := 0) rfl rfl (by decide) ?_
              refine X_istore rfl rfl rfl rfl ?_
              exact X_sub (g_sub_s (g_sub_n (g_sub_s (g_sub_s (g_sub_s (g_sub_s (g_sub_s (g_sub_s (g_sub_s (g_sub_s (g_sub_s (g_sub_s (g_sub_n (g_sub_s (g_sub_s (g_sub_s (g_sub_n (g_sub_n (g_sub_n (g_sub_n (g_sub_n (g_sub_n (g_sub_n (g_sub_n (g_sub_n g_sub_0))))))))))))))))))))))))) (b_L_law_b345 hl hX hret hkb4 hnb4 hkb247 hnb247 hK4 (ih _ _ (by omega) (by omega)) g_N _ _ _ _ _ _ _ _ _ _ _ _ _ _)
            · refine X_if (fun c283_3 => ?_) (fun c283_3 => ?_)
              · refine X_tswIn (v := 3) (len := 45) (tgt := 388) (off := 105) rfl rfl c283_3 (by decide) (by decide) rfl rfl ?_
                refine X_aload rfl rfl rfl ?_
                refine X_kS_A (k1 := kb247 + 269) (n1 := nb247 + 1317) (M' := M_L_randomWord) (nA := 1) (As := [.ref l5]) (st := []) rfl rfl (by decide +kernel) rfl rfl rfl (by show kb247 + 217 + 52 = kb247 + 269; omega) (by show nb247 + 797 + 520 = nb247 + 1317; omega) (X_ble (by show kb247 + 269 ≤ 600086; omega)) (X_ble (by show nb247 + 1317 ≤ 7301442; omega)) (fun _ _ e => ct_L_randomWord  e) (fun y390 => ?_)
                refine X_astore rfl rfl rfl rfl ?_
                refine X_aload rfl rfl rfl ?_
                refine X_getA rfl rfl (fun v397 => ?_)
                refine X_aln rfl rfl (fun v400 => ?_)
                refine X_bipush (v := 8) rfl rfl (by decide) ?_
                refine X_bicmp_ge rfl rfl (fun _ => ?_) (fun _ => ?_)
                · refine X_iconst (v := 1) rfl rfl (by decide) ?_
                  refine X_goto rfl rfl ?_
                  exact X_sub (g_sub_s (g_sub_n (g_sub_s (g_sub_s (g_sub_s (g_sub_s (g_sub_s (g_sub_s (g_sub_s (g_sub_s (g_sub_s (g_sub_n (g_sub_s (g_sub_n (g_sub_n (g_sub_s (g_sub_n (g_sub_n (g_sub_n (g_sub_n (g_sub_n (g_sub_n (g_sub_n (g_sub_n (g_sub_n g_sub_0))))))))))))))))))))))))) (b_L_law_b411 hl hX hret hkb4 hnb4 hkb247 hnb247 hK4 (ih _ _ (by omega) (by omega)) _ _ _ _ _ _ _ _ _ _ _ _ _)
                · refine X_iconst (v := 0) rfl rfl (by decide) ?_
                  exact X_sub (g_sub_s (g_sub_n (g_sub_s (g_sub_s (g_sub_s (g_sub_s (g_sub_s (g_sub_s (g_sub_s (g_sub_s (g_sub_s (g_sub_n (g_sub_s (g_sub_n (g_sub_n (g_sub_s (g_sub_n (g_sub_n (g_sub_n (g_sub_n (g_sub_n (g_sub_n (g_sub_n (g_sub_n (g_sub_n g_sub_0))))))))))))))))))))))))) (b_L_law_b411 hl hX hret hkb4 hnb4 hkb247 hnb247 hK4 (ih _ _ (by omega) (by omega)) _ _ _ _ _ _ _ _ _ _ _ _ _)
              · refine X_if (fun c283_4 => ?_) (fun c283_4 => ?_)
                · refine X_tswIn (v := 4) (len := 45) (tgt := 502) (off := 219) rfl rfl c283_4 (by decide) (by decide) rfl rfl ?_
                  refine X_aload rfl rfl rfl ?_
                  refine X_bipush (v := 11) rfl rfl (by decide) ?_
                  refine X_kV_I (k1 := kb247 + 217) (n1 := nb247 + 797) (M' := M_X11_below) (nA := 1) (As := [.int 11]) (st := []) (b := l5) (ci := 11) rfl rfl (by decide +kernel) rfl rfl rfl rfl (by show kb247 + 217 + 0 = kb247 + 217; omega) (by show nb247 + 797 + 0 = nb247 + 797; omega) (X_ble (by show kb247 + 217 ≤ 600086; omega)) (X_ble (by show nb247 + 797 ≤ 7301442; omega)) (fun _ _ e => ct_X11_below  e) (fun y506 => ?_)
                  refine X_istore rfl rfl rfl rfl ?_
                  refine X_iload rfl rfl rfl ?_
                  refine X_bipush (v := 10) rfl rfl (by decide) ?_
                  refine X_bicmp_ge rfl rfl (fun _ => ?_) (fun _ => ?_)
                  · refine X_aload rfl rfl rfl ?_
                    refine X_getA rfl rfl (fun v520 => ?_)
                    refine X_aln rfl rfl (fun v523 => ?_)
                    refine X_bipush (v := 12) rfl rfl (by decide) ?_
                    refine X_bicmp_ge rfl rfl (fun _ => ?_) (fun _ => ?_)
                    · refine X_iconst (v := 1) rfl rfl (by decide) ?_
                      refine X_goto rfl rfl ?_
                      exact X_sub (g_sub_s (g_sub_n (g_sub_s (g_sub_s (g_sub_s (g_sub_s (g_sub_s (g_sub_s (g_sub_s (g_sub_s (g_sub_s (g_sub_n (g_sub_n (g_sub_n (g_sub_n (g_sub_n (g_sub_s (g_sub_n (g_sub_n (g_sub_n (g_sub_n (g_sub_n (g_sub_n (g_sub_n (g_sub_n g_sub_0))))))))))))))))))))))))) (b_L_law_b534 hl hX hret hkb4 hnb4 hkb247 hnb247 hK4 (ih _ _ (by omega) (by omega)) _ _ _ _ _ _ _ _ _ _ _ _)
                    · exact X_sub (g_sub_s (g_sub_n (g_sub_s (g_sub_s (g_sub_s (g_sub_s (g_sub_s (g_sub_s (g_sub_s (g_sub_s (g_sub_s (g_sub_n (g_sub_n (g_sub_n (g_sub_n (g_sub_n (g_sub_s (g_sub_n (g_sub_n (g_sub_n (g_sub_n (g_sub_n (g_sub_n (g_sub_n (g_sub_n g_sub_0))))))))))))))))))))))))) (b_L_law_b533 hl hX hret hkb4 hnb4 hkb247 hnb247 hK4 (ih _ _ (by omega) (by omega)) _ _ _ _ _ _ _ _ _ _ _)
                  · exact X_sub (g_sub_s (g_sub_n (g_sub_s (g_sub_s (g_sub_s (g_sub_s (g_sub_s (g_sub_s (g_sub_s (g_sub_s (g_sub_s (g_sub_n (g_sub_n (g_sub_n (g_sub_n (g_sub_n (g_sub_s (g_sub_n (g_sub_n (g_sub_n (g_sub_n (g_sub_n (g_sub_n (g_sub_n (g_sub_n g_sub_0))))))))))))))))))))))))) (b_L_law_b533 hl hX hret hkb4 hnb4 hkb247 hnb247 hK4 (ih _ _ (by omega) (by omega)) _ _ _ _ _ _ _ _ _ _ _)
                · refine X_if (fun c283_5 => ?_) (fun c283_5 => ?_)
                  · refine X_tswIn (v := 5) (len := 45) (tgt := 640) (off := 357) rfl rfl c283_5 (by decide) (by decide) rfl rfl ?_
                    refine X_aload rfl rfl rfl ?_
                    refine X_bipush (v := 27) rfl rfl (by decide) ?_
                    refine X_kV_I (k1 := kb247 + 217) (n1 := nb247 + 797) (M' := M_X11_below) (nA := 1) (As := [.int 27]) (st := []) (b := l5) (ci := 11) rfl rfl (by decide +kernel) rfl rfl rfl rfl (by show kb247 + 217 + 0 = kb247 + 217; omega) (by show nb247 + 797 + 0 = nb247 + 797; omega) (X_ble (by show kb247 + 217 ≤ 600086; omega)) (X_ble (by show nb247 + 797 ≤ 7301442; omega)) (fun _ _ e => ct_X11_below  e) (fun y644 => ?_)
                    refine X_istore rfl rfl rfl rfl ?_
                    refine X_aload rfl rfl rfl ?_
                    refine X_iload rfl rfl rfl ?_
                    refine X_aload rfl rfl rfl ?_
                    refine X_getI rfl rfl (fun v655 => ?_)
                    refine X_callV_IR (M' := M_X10_key) (nA := 2) (As := [.int y271.1, .int v655]) (st := []) (b := l6) (ci := 10) rfl rfl (by decide +kernel) rfl rfl rfl rfl rfl rfl (X_ble (by show kb247 + 217 ≤ 600086; omega)) (X_ble (by show nb247 + 797 ≤ 7301442; omega)) (fun _ e => ct_X10_key  e) (fun v658 => ?_)
                    refine X_istore rfl rfl rfl rfl ?_
                    refine X_iconst (v := -1) rfl rfl (by decide) ?_
                    refine X_istore rfl rfl rfl rfl ?_
                    refine X_iconst (v := 0) rfl rfl (by decide) ?_
                    refine X_istore rfl rfl rfl rfl ?_
                    refine X_iconst (v := 0) rfl rfl (by decide) ?_
                    refine X_istore rfl rfl rfl rfl ?_
                    exact X_sub (g_sub_s (g_sub_n (g_sub_s (g_sub_s (g_sub_s (g_sub_s (g_sub_s (g_sub_s (g_sub_s (g_sub_s (g_sub_s (g_sub_n (g_sub_s (g_sub_n (g_sub_n (g_sub_n (g_sub_n (g_sub_s (g_sub_s (g_sub_s (g_sub_s (g_sub_s (g_sub_n (g_sub_n (g_sub_n g_sub_0))))))))))))))))))))))))) (b_L_law_b672 hl hX hret hkb4 hnb4 hkb247 hnb247 hK4 (ih _ _ (by omega) (by omega)) g_N _ _ _ _ _ _ _ _ _ _ _ _ _ _ _ _)
                  · refine X_if (fun c283_6 => ?_) (fun c283_6 => ?_)
                    · refine X_tswIn (v := 6) (len := 45) (tgt := 886) (off := 603) rfl rfl c283_6 (by decide) (by decide) rfl rfl ?_
                      refine X_aload rfl rfl rfl ?_
                      refine X_bipush (v := 11) rfl rfl (by decide) ?_
                      refine X_kV_I (k1 := kb247 + 217) (n1 := nb247 + 797) (M' := M_X11_below) (nA := 1) (As := [.int 11]) (st := []) (b := l5) (ci := 11) rfl rfl (by decide +kernel) rfl rfl rfl rfl (by show kb247 + 217 + 0 = kb247 + 217; omega) (by show nb247 + 797 + 0 = nb247 + 797; omega) (X_ble (by show kb247 + 217 ≤ 600086; omega)) (X_ble (by show nb247 + 797 ≤ 7301442; omega)) (fun _ _ e => ct_X11_below  e) (fun y890 => ?_)
                      refine X_istore rfl rfl rfl rfl ?_
                      refine X_iload rfl rfl rfl ?_
                      refine X_bipush (v := 10) rfl rfl (by decide) ?_
                      refine X_bicmp_ge rfl rfl (fun _ => ?_) (fun _ => ?_)
                      · refine X_iconst (v := 1) rfl rfl (by decide) ?_
                        refine X_goto rfl rfl ?_
                        exact X_sub (g_sub_s (g_sub_n (g_sub_s (g_sub_s (g_sub_s (g_sub_s (g_sub_s (g_sub_s (g_sub_s (g_sub_s (g_sub_s (g_sub_n (g_sub_s (g_sub_n (g_sub_n (g_sub_n (g_sub_n (g_sub_n (g_sub_n (g_sub_n (g_sub_n (g_sub_s (g_sub_n (g_sub_n (g_sub_n g_sub_0))))))))))))))))))))))))) (b_L_law_b907 hl hX hret hkb4 hnb4 hkb247 hnb247 hK4 (ih _ _ (by omega) (by omega)) _ _ _ _ _ _ _ _ _ _ _ _ _)
                      · refine X_iconst (v := 0) rfl rfl (by decide) ?_
                        exact X_sub (g_sub_s (g_sub_n (g_sub_s (g_sub_s (g_sub_s (g_sub_s (g_sub_s (g_sub_s (g_sub_s (g_sub_s (g_sub_s (g_sub_n (g_sub_s (g_sub_n (g_sub_n (g_sub_n (g_sub_n (g_sub_n (g_sub_n (g_sub_n (g_sub_n (g_sub_s (g_sub_n (g_sub_n (g_sub_n g_sub_0))))))))))))))))))))))))) (b_L_law_b907 hl hX hret hkb4 hnb4 hkb247 hnb247 hK4 (ih _ _ (by omega) (by omega)) _ _ _ _ _ _ _ _ _ _ _ _ _)
                    · refine X_if (fun c283_7 => ?_) (fun c283_7 => ?_)
                      · refine X_tswIn (v := 7) (len := 45) (tgt := 972) (off := 689) rfl rfl c283_7 (by decide) (by decide) rfl rfl ?_
                        refine X_aload rfl rfl rfl ?_
                        refine X_aload rfl rfl rfl ?_
                        refine X_getA rfl rfl (fun v976 => ?_)
                        refine X_aln rfl rfl (fun v979 => ?_)
                        refine X_iconst (v := 1) rfl rfl (by decide) ?_
                        refine X_iadd rfl rfl ?_
                        refine X_kV_I (k1 := kb247 + 217) (n1 := nb247 + 797) (M' := M_X11_below) (nA := 1) (As := [.int (v979 + 1)]) (st := []) (b := l5) (ci := 11) rfl rfl (by decide +kernel) rfl rfl rfl rfl (by show kb247 + 217 + 0 = kb247 + 217; omega) (by show nb247 + 797 + 0 = nb247 + 797; omega) (X_ble (by show kb247 + 217 ≤ 600086; omega)) (X_ble (by show nb247 + 797 ≤ 7301442; omega)) (fun _ _ e => ct_X11_below  e) (fun y982 => ?_)
                        refine X_istore rfl rfl rfl rfl ?_
                        refine X_iload rfl rfl rfl ?_
                        refine X_aload rfl rfl rfl ?_
                        refine X_getA rfl rfl (fun v991 => ?_)
                        refine X_aln rfl rfl (fun v994 => ?_)
                        refine X_bicmp_ge rfl rfl (fun _ => ?_) (fun _ => ?_)
                        · refine X_iconst (v := 1) rfl rfl (by decide) ?_
                          refine X_goto rfl rfl ?_
                          exact X_sub (g_sub_s (g_sub_n (g_sub_s (g_sub_s (g_sub_s (g_sub_s (g_sub_s (g_sub_s (g_sub_s (g_sub_s (g_sub_s (g_sub_n (g_sub_n (g_sub_n (g_sub_n (g_sub_n (g_sub_n (g_sub_n (g_sub_n (g_sub_n (g_sub_n (g_sub_n (g_sub_n (g_sub_s (g_sub_n g_sub_0))))))))))))))))))))))))) (b_L_law_b1003 hl hX hret hkb4 hnb4 hkb247 hnb247 hK4 (ih _ _ (by omega) (by omega)) _ _ _ _ _ _ _ _ _ _ _ _)
                        · refine X_iconst (v := 0) rfl rfl (by decide) ?_
                          exact X_sub (g_sub_s (g_sub_n (g_sub_s (g_sub_s (g_sub_s (g_sub_s (g_sub_s (g_sub_s (g_sub_s (g_sub_s (g_sub_s (g_sub_n (g_sub_n (g_sub_n (g_sub_n (g_sub_n (g_sub_n (g_sub_n (g_sub_n (g_sub_n (g_sub_n (g_sub_n (g_sub_n (g_sub_s (g_sub_n g_sub_0))))))))))))))))))))))))) (b_L_law_b1003 hl hX hret hkb4 hnb4 hkb247 hnb247 hK4 (ih _ _ (by omega) (by omega)) _ _ _ _ _ _ _ _ _ _ _ _)
                      · refine X_tswOut (len := 45) (tgt := 1085) rfl rfl (by have := g_neI c283_0 (show Int32.toInt (0) = 0 by decide) ; have := g_neI c283_1 (show Int32.toInt (1) = 1 by decide) ; have := g_neI c283_2 (show Int32.toInt (2) = 2 by decide) ; have := g_neI c283_3 (show Int32.toInt (3) = 3 by decide) ; have := g_neI c283_4 (show Int32.toInt (4) = 4 by decide) ; have := g_neI c283_5 (show Int32.toInt (5) = 5 by decide) ; have := g_neI c283_6 (show Int32.toInt (6) = 6 by decide) ; have := g_neI c283_7 (show Int32.toInt (7) = 7 by decide); omega) rfl ?_
                        refine X_iconst (v := 0) rfl rfl (by decide) ?_
                        refine X_istore rfl rfl rfl rfl ?_
                        refine X_aload_n rfl rfl rfl ?_
                        refine X_aload rfl rfl rfl ?_
                        refine X_getA rfl rfl (fun v1091 => ?_)
                        refine X_aln rfl rfl (fun v1094 => ?_)
                        refine X_iconst (v := 0) rfl rfl (by decide) ?_
                        refine X_iconst (v := 0) rfl rfl (by decide) ?_
                        refine X_kY_I (k1 := kb247 + 218) (n1 := nb247 + 803) (M' := M_L_letter) (nA := 4) (As := [.ref l3, .int v1094, .int 0, .int 0]) (st := []) rfl rfl (by decide +kernel) rfl rfl rfl (by show kb247 + 217 + 1 = kb247 + 218; omega) (by show nb247 + 797 + 6 = nb247 + 803; omega) (X_ble (by show kb247 + 218 ≤ 600086; omega)) (X_ble (by show nb247 + 803 ≤ 7301442; omega)) (fun _ _ e => cy_L_letter hl  e) (fun y1097 => ?_)
                        refine X_ldc (v := -2000000097) rfl rfl (by decide +kernel) ?_
                        refine X_bicmp_ne rfl rfl (fun _ => ?_) (fun _ => ?_)
                        · refine X_aload_n rfl rfl rfl ?_
                          refine X_aload rfl rfl rfl ?_
                          refine X_getI rfl rfl (fun v1108 => ?_)
                          refine X_kY_I (k1 := kb247 + 219) (n1 := nb247 + 809) (M' := M_L_mist) (nA := 2) (As := [.ref l3, .int v1108]) (st := []) rfl rfl (by decide +kernel) rfl rfl rfl (by show kb247 + 218 + 1 = kb247 + 219; omega) (by show nb247 + 803 + 6 = nb247 + 809; omega) (X_ble (by show kb247 + 219 ≤ 600086; omega)) (X_ble (by show nb247 + 809 ≤ 7301442; omega)) (fun _ _ e => cy_L_mist hl  e) (fun y1111 => ?_)
                          refine X_aload rfl rfl rfl ?_
                          refine X_aload rfl rfl rfl ?_
                          refine X_getI rfl rfl (fun v1118 => ?_)
                          refine X_callV_IR (M' := M_X10_mist) (nA := 1) (As := [.int v1118]) (st := [.int y1111.1]) (b := l6) (ci := 10) rfl rfl (by decide +kernel) rfl rfl rfl rfl rfl rfl (X_ble (by show kb247 + 219 ≤ 600086; omega)) (X_ble (by show nb247 + 809 ≤ 7301442; omega)) (fun _ e => ct_X10_mist  e) (fun v1121 => ?_)
                          refine X_bicmp_ne rfl rfl (fun _ => ?_) (fun _ => ?_)
                          · refine X_aload_n rfl rfl rfl ?_
                            refine X_iload rfl rfl rfl ?_
                            refine X_aload rfl rfl rfl ?_
                            refine X_getI rfl rfl (fun v1132 => ?_)
                            refine X_kY_I (k1 := kb247 + 220) (n1 := nb247 + 815) (M' := M_L_key) (nA := 3) (As := [.ref l3, .int y271.1, .int v1132]) (st := []) rfl rfl (by decide +kernel) rfl rfl rfl (by show kb247 + 219 + 1 = kb247 + 220; omega) (by show nb247 + 809 + 6 = nb247 + 815; omega) (X_ble (by show kb247 + 220 ≤ 600086; omega)) (X_ble (by show nb247 + 815 ≤ 7301442; omega)) (fun _ _ e => cy_L_key hl  e) (fun y1135 => ?_)
                            refine X_aload rfl rfl rfl ?_
                            refine X_iload rfl rfl rfl ?_
                            refine X_aload rfl rfl rfl ?_
                            refine X_getI rfl rfl (fun v1144 => ?_)
                            refine X_callV_IR (M' := M_X10_key) (nA := 2) (As := [.int y271.1, .int v1144]) (st := [.int y1135.1]) (b := l6) (ci := 10) rfl rfl (by decide +kernel) rfl rfl rfl rfl rfl rfl (X_ble (by show kb247 + 220 ≤ 600086; omega)) (X_ble (by show nb247 + 815 ≤ 7301442; omega)) (fun _ e => ct_X10_key  e) (fun v1147 => ?_)
                            refine X_bicmp_ne rfl rfl (fun _ => ?_) (fun _ => ?_)
                            · refine X_iconst (v := 1) rfl rfl (by decide) ?_
                              refine X_goto rfl rfl ?_
                              exact X_sub (g_sub_s (g_sub_n (g_sub_s (g_sub_s (g_sub_s (g_sub_s (g_sub_s (g_sub_s (g_sub_s (g_sub_s (g_sub_s (g_sub_s (g_sub_n (g_sub_n (g_sub_n (g_sub_n (g_sub_n (g_sub_n (g_sub_n (g_sub_n (g_sub_n (g_sub_n (g_sub_n (g_sub_n (g_sub_n g_sub_0))))))))))))))))))))))))) (b_L_law_b1158 hl hX hret hkb4 hnb4 hkb247 hnb247 hK4 (ih _ _ (by omega) (by omega)) _ _ _ _ _ _ _ _ _ _ _ _)
                            · exact X_sub (g_sub_s (g_sub_n (g_sub_s (g_sub_s (g_sub_s (g_sub_s (g_sub_s (g_sub_s (g_sub_s (g_sub_s (g_sub_s (g_sub_s (g_sub_n (g_sub_n (g_sub_n (g_sub_n (g_sub_n (g_sub_n (g_sub_n (g_sub_n (g_sub_n (g_sub_n (g_sub_n (g_sub_n (g_sub_n g_sub_0))))))))))))))))))))))))) (b_L_law_b1157 hl hX hret hkb4 hnb4 hkb247 hnb247 hK4 (ih _ _ (by omega) (by omega)) _ _ _ _ _ _ _ _ _ _ _)
                          · refine X_wid (k' := kb247 + 220) (n' := nb247 + 815) (by omega) (by omega) ?_
                            exact X_sub (g_sub_s (g_sub_n (g_sub_s (g_sub_s (g_sub_s (g_sub_s (g_sub_s (g_sub_s (g_sub_s (g_sub_s (g_sub_s (g_sub_s (g_sub_n (g_sub_n (g_sub_n (g_sub_n (g_sub_n (g_sub_n (g_sub_n (g_sub_n (g_sub_n (g_sub_n (g_sub_n (g_sub_n (g_sub_n g_sub_0))))))))))))))))))))))))) (b_L_law_b1157 hl hX hret hkb4 hnb4 hkb247 hnb247 hK4 (ih _ _ (by omega) (by omega)) _ _ _ _ _ _ _ _ _ _ _)
                        · refine X_wid (k' := kb247 + 220) (n' := nb247 + 815) (by omega) (by omega) ?_
                          exact X_sub (g_sub_s (g_sub_n (g_sub_s (g_sub_s (g_sub_s (g_sub_s (g_sub_s (g_sub_s (g_sub_s (g_sub_s (g_sub_s (g_sub_s (g_sub_n (g_sub_n (g_sub_n (g_sub_n (g_sub_n (g_sub_n (g_sub_n (g_sub_n (g_sub_n (g_sub_n (g_sub_n (g_sub_n (g_sub_n g_sub_0))))))))))))))))))))))))) (b_L_law_b1157 hl hX hret hkb4 hnb4 hkb247 hnb247 hK4 (ih _ _ (by omega) (by omega)) _ _ _ _ _ _ _ _ _ _ _)
    · refine X_wid (k' := kb4 + 9261) (n' := nb4 + 55363) (by omega) (by omega) ?_
      exact X_sub (g_sub_s (g_sub_s (g_sub_s (g_sub_s (g_sub_n (g_sub_n (g_sub_n (g_sub_s (g_sub_s (g_sub_n (g_sub_n (g_sub_n (g_sub_n (g_sub_n (g_sub_n (g_sub_n (g_sub_n (g_sub_n (g_sub_n (g_sub_n (g_sub_n (g_sub_n (g_sub_n (g_sub_n (g_sub_n g_sub_0))))))))))))))))))))))))) (b_L_law_b1225 hl hX hret hkb4 hnb4 hK4 (ih _ _ (by omega) (by omega)) _ _ _ _ _ _)
set_option maxRecDepth 100000 in
theorem b_L_law_b233 {l : Launch} {G : gG} (hl : l.stackTraces = false) {Q : State → Array Value → List Frame → Prop} {Z : State → Prop} {b N : Nat} {xs : Nat → Int32} (hX : g_scr G Q b N xs) (hret : ∀ (pc : Nat) (L : List (Option Value)) (h : gH) (k n : Nat) (v : Int32), decode code pc = .ok (.ireturn, 1) → k ≤ 600086 → n ≤ 7301442 → GX l G M_L_law (g_phS Q Z) k n pc L [.int v] h (some (v, h))) {kb4 nb4 : Nat} {K4 : gH → Int32 → Int32 → Option (Int32 × gH)} (hkb4 : kb4 + 9458 ≤ 28374) (hnb4 : nb4 + 56546 ≤ 169638) (hK4 : ∀ (h : gH) (l1 : Int32) (l2 : Int32), GX l G M_L_law (g_phS Q Z) (kb4 + 9458) (nb4 + 56546) 4 [some (.ref b), some (.int l1), some (.int l2), none, none, none, none, none, none, none, none, none, none, none, none, none, none, none, none, none, none, none, none, none, none] [] h (K4 h l1 l2)) (h : gH) (l2 : Int32) (l3 : Nat) (l4 : Nat) (l5 : Nat) (l6 : Nat) (s0 : Int32) : GX l G M_L_law (g_phS Q Z) (kb4 + 1122) (nb4 + 15652) 233 [some (.ref b), none, some (.int l2), some (.ref l3), some (.ref l4), some (.ref l5), some (.ref l6), none, none, none, none, none, none, none, none, none, none, none, none, none, none, none, none, none, none] [.int s0] h (f_L_law_b233 G xs N K4 h l2 l3 l4 l5 l6 s0) := by
  unfold f_L_law_b233
  refine X_istore_n rfl rfl rfl rfl ?_
  refine X_bipush (v := 9) rfl rfl (by decide) ?_
  refine X_nwQ (t := 9) (C := "LampRelayLaw$Line") (k1 := kb4 + 1123) (n1 := nb4 + 15661) (B := 9) rfl rfl (by show kb4 + 1122 + 1 = kb4 + 1123; omega) (by show nb4 + 15652 + 9 = nb4 + 15661; omega) (by decide +kernel) (by decide +kernel) rfl rfl (X_ble (by show kb4 + 1123 ≤ 600086; omega)) (X_ble (by show nb4 + 15661 ≤ 7301442; omega)) (fun h236 => ?_)
  refine X_astore rfl rfl rfl rfl ?_
  refine X_iconst (v := 0) rfl rfl (by decide) ?_
  refine X_istore rfl rfl rfl rfl ?_
  refine X_iconst (v := 0) rfl rfl (by decide) ?_
  refine X_istore rfl rfl rfl rfl ?_
  exact X_sub (g_sub_s (g_sub_s (g_sub_s (g_sub_s (g_sub_s (g_sub_s (g_sub_s (g_sub_s (g_sub_s (g_sub_s (g_sub_n (g_sub_n (g_sub_n (g_sub_n (g_sub_n (g_sub_n (g_sub_n (g_sub_n (g_sub_n (g_sub_n (g_sub_n (g_sub_n (g_sub_n (g_sub_n (g_sub_n g_sub_0))))))))))))))))))))))))) (b_L_law_b247 hl hX hret hkb4 hnb4 hK4 26 _ _ (by omega) (by omega) _ _ _ _ _ _ _ _ _ _)
set_option maxRecDepth 100000 in
theorem b_L_law_b232 {l : Launch} {G : gG} (hl : l.stackTraces = false) {Q : State → Array Value → List Frame → Prop} {Z : State → Prop} {b N : Nat} {xs : Nat → Int32} (hX : g_scr G Q b N xs) (hret : ∀ (pc : Nat) (L : List (Option Value)) (h : gH) (k n : Nat) (v : Int32), decode code pc = .ok (.ireturn, 1) → k ≤ 600086 → n ≤ 7301442 → GX l G M_L_law (g_phS Q Z) k n pc L [.int v] h (some (v, h))) {kb4 nb4 : Nat} {K4 : gH → Int32 → Int32 → Option (Int32 × gH)} (hkb4 : kb4 + 9458 ≤ 28374) (hnb4 : nb4 + 56546 ≤ 169638) (hK4 : ∀ (h : gH) (l1 : Int32) (l2 : Int32), GX l G M_L_law (g_phS Q Z) (kb4 + 9458) (nb4 + 56546) 4 [some (.ref b), some (.int l1), some (.int l2), none, none, none, none, none, none, none, none, none, none, none, none, none, none, none, none, none, none, none, none, none, none] [] h (K4 h l1 l2)) (h : gH) (l2 : Int32) (l3 : Nat) (l4 : Nat) (l5 : Nat) (l6 : Nat) : GX l G M_L_law (g_phS Q Z) (kb4 + 1122) (nb4 + 15652) 232 [some (.ref b), none, some (.int l2), some (.ref l3), some (.ref l4), some (.ref l5), some (.ref l6), none, none, none, none, none, none, none, none, none, none, none, none, none, none, none, none, none, none] [] h (f_L_law_b232 G xs N K4 h l2 l3 l4 l5 l6) := by
  unfold f_L_law_b232
  refine X_iconst (v := 0) rfl rfl (by decide) ?_
  exact X_sub (g_sub_s (g_sub_n (g_sub_s (g_sub_s (g_sub_s (g_sub_s (g_sub_s (g_sub_n (g_sub_n (g_sub_n (g_sub_n (g_sub_n (g_sub_n (g_sub_n (g_sub_n (g_sub_n (g_sub_n (g_sub_n (g_sub_n (g_sub_n (g_sub_n (g_sub_n (g_sub_n (g_sub_n (g_sub_n g_sub_0))))))))))))))))))))))))) (b_L_law_b233 hl hX hret hkb4 hnb4 hK4 _ _ _ _ _ _ _)
set_option maxRecDepth 100000 in
theorem b_L_law_b197 {l : Launch} {G : gG} (hl : l.stackTraces = false) {Q : State → Array Value → List Frame → Prop} {Z : State → Prop} {b N : Nat} {xs : Nat → Int32} (hX : g_scr G Q b N xs) (hret : ∀ (pc : Nat) (L : List (Option Value)) (h : gH) (k n : Nat) (v : Int32), decode code pc = .ok (.ireturn, 1) → k ≤ 600086 → n ≤ 7301442 → GX l G M_L_law (g_phS Q Z) k n pc L [.int v] h (some (v, h))) {kb4 nb4 : Nat} {K4 : gH → Int32 → Int32 → Option (Int32 × gH)} (hkb4 : kb4 + 9458 ≤ 28374) (hnb4 : nb4 + 56546 ≤ 169638) (hK4 : ∀ (h : gH) (l1 : Int32) (l2 : Int32), GX l G M_L_law (g_phS Q Z) (kb4 + 9458) (nb4 + 56546) 4 [some (.ref b), some (.int l1), some (.int l2), none, none, none, none, none, none, none, none, none, none, none, none, none, none, none, none, none, none, none, none, none, none] [] h (K4 h l1 l2)) (h : gH) (l2 : Int32) (l3 : Nat) (l4 : Nat) (l5 : Nat) (s0 : Int32) : GX l G M_L_law (g_phS Q Z) (kb4 + 653) (nb4 + 11932) 197 [some (.ref b), none, some (.int l2), some (.ref l3), some (.ref l4), some (.ref l5), none, none, none, none, none, none, none, none, none, none, none, none, none, none, none, none, none, none, none] [.int s0] h (f_L_law_b197 G xs N K4 h l2 l3 l4 l5 s0) := by
  unfold f_L_law_b197
  refine X_istore_n rfl rfl rfl rfl ?_
  refine X_aload_n rfl rfl rfl ?_
  refine X_aload rfl rfl rfl ?_
  refine X_aload rfl rfl rfl ?_
  refine X_kS_Q (k1 := kb4 + 1103) (n1 := nb4 + 15538) (M' := M_L_randomLine) (nA := 3) (As := [.ref l3, .ref l4, .ref l5]) (st := []) rfl rfl (by decide +kernel) rfl rfl rfl (by show kb4 + 653 + 450 = kb4 + 1103; omega) (by show nb4 + 11932 + 3606 = nb4 + 15538; omega) (X_ble (by show kb4 + 1103 ≤ 600086; omega)) (X_ble (by show nb4 + 15538 ≤ 7301442; omega)) (fun _ _ e => ct_L_randomLine hl  e) (fun y203 => ?_)
  obtain ⟨q203, h203⟩ := y203
  dsimp only
  refine X_astoreQ (x := q203) rfl rfl rfl rfl ?_
  refine X_aloadQ (x := q203) rfl rfl rfl ?_
  refine X_bnonnull rfl rfl (fun _ => ?_) (fun a210 e210 => ?_)
  · refine X_iconst (v := 0) rfl rfl (by decide) ?_
    exact hret _ _ _ _ _ _ (by decide +kernel) (by show kb4 + 1103 ≤ 600086; omega) (by show nb4 + 15538 ≤ 7301442; omega)
  · subst e210
    refine X_iload_n rfl rfl rfl ?_
    refine X_bif_eq rfl rfl (fun _ => ?_) (fun _ => ?_)
    · refine X_wid (k' := kb4 + 1122) (n' := nb4 + 15652) (by omega) (by omega) ?_
      exact X_sub (g_sub_s (g_sub_n (g_sub_s (g_sub_s (g_sub_s (g_sub_s (g_sub_s (g_sub_n (g_sub_n (g_sub_n (g_sub_n (g_sub_n (g_sub_n (g_sub_n (g_sub_n (g_sub_n (g_sub_n (g_sub_n (g_sub_n (g_sub_n (g_sub_n (g_sub_n (g_sub_n (g_sub_n (g_sub_n g_sub_0))))))))))))))))))))))))) (b_L_law_b232 hl hX hret hkb4 hnb4 hK4 _ _ _ _ _ _)
    · refine X_aload_n rfl rfl rfl ?_
      refine X_aload rfl rfl rfl ?_
      refine X_kS_I (k1 := kb4 + 1122) (n1 := nb4 + 15652) (M' := M_L_agrees) (nA := 2) (As := [.ref l3, .ref a210]) (st := []) rfl rfl (by decide +kernel) rfl rfl rfl (by show kb4 + 1103 + 19 = kb4 + 1122; omega) (by show nb4 + 15538 + 114 = nb4 + 15652; omega) (X_ble (by show kb4 + 1122 ≤ 600086; omega)) (X_ble (by show nb4 + 15652 ≤ 7301442; omega)) (fun _ _ e => ct_L_agrees hl  e) (fun y222 => ?_)
      refine X_bif_eq rfl rfl (fun _ => ?_) (fun _ => ?_)
      · exact X_sub (g_sub_s (g_sub_n (g_sub_s (g_sub_s (g_sub_s (g_sub_s (g_sub_s (g_sub_n (g_sub_n (g_sub_n (g_sub_n (g_sub_n (g_sub_n (g_sub_n (g_sub_n (g_sub_n (g_sub_n (g_sub_n (g_sub_n (g_sub_n (g_sub_n (g_sub_n (g_sub_n (g_sub_n (g_sub_n g_sub_0))))))))))))))))))))))))) (b_L_law_b232 hl hX hret hkb4 hnb4 hK4 _ _ _ _ _ _)
      · refine X_iconst (v := 1) rfl rfl (by decide) ?_
        refine X_goto rfl rfl ?_
        exact X_sub (g_sub_s (g_sub_n (g_sub_s (g_sub_s (g_sub_s (g_sub_s (g_sub_s (g_sub_n (g_sub_n (g_sub_n (g_sub_n (g_sub_n (g_sub_n (g_sub_n (g_sub_n (g_sub_n (g_sub_n (g_sub_n (g_sub_n (g_sub_n (g_sub_n (g_sub_n (g_sub_n (g_sub_n (g_sub_n g_sub_0))))))))))))))))))))))))) (b_L_law_b233 hl hX hret hkb4 hnb4 hK4 _ _ _ _ _ _ _)
set_option maxRecDepth 100000 in
theorem b_L_law_b196 {l : Launch} {G : gG} (hl : l.stackTraces = false) {Q : State → Array Value → List Frame → Prop} {Z : State → Prop} {b N : Nat} {xs : Nat → Int32} (hX : g_scr G Q b N xs) (hret : ∀ (pc : Nat) (L : List (Option Value)) (h : gH) (k n : Nat) (v : Int32), decode code pc = .ok (.ireturn, 1) → k ≤ 600086 → n ≤ 7301442 → GX l G M_L_law (g_phS Q Z) k n pc L [.int v] h (some (v, h))) {kb4 nb4 : Nat} {K4 : gH → Int32 → Int32 → Option (Int32 × gH)} (hkb4 : kb4 + 9458 ≤ 28374) (hnb4 : nb4 + 56546 ≤ 169638) (hK4 : ∀ (h : gH) (l1 : Int32) (l2 : Int32), GX l G M_L_law (g_phS Q Z) (kb4 + 9458) (nb4 + 56546) 4 [some (.ref b), some (.int l1), some (.int l2), none, none, none, none, none, none, none, none, none, none, none, none, none, none, none, none, none, none, none, none, none, none] [] h (K4 h l1 l2)) (h : gH) (l2 : Int32) (l3 : Nat) (l4 : Nat) (l5 : Nat) : GX l G M_L_law (g_phS Q Z) (kb4 + 653) (nb4 + 11932) 196 [some (.ref b), none, some (.int l2), some (.ref l3), some (.ref l4), some (.ref l5), none, none, none, none, none, none, none, none, none, none, none, none, none, none, none, none, none, none, none] [] h (f_L_law_b196 G xs N K4 h l2 l3 l4 l5) := by
  unfold f_L_law_b196
  refine X_iconst (v := 0) rfl rfl (by decide) ?_
  exact X_sub (g_sub_s (g_sub_n (g_sub_s (g_sub_s (g_sub_s (g_sub_s (g_sub_n (g_sub_n (g_sub_n (g_sub_n (g_sub_n (g_sub_n (g_sub_n (g_sub_n (g_sub_n (g_sub_n (g_sub_n (g_sub_n (g_sub_n (g_sub_n (g_sub_n (g_sub_n (g_sub_n (g_sub_n (g_sub_n g_sub_0))))))))))))))))))))))))) (b_L_law_b197 hl hX hret hkb4 hnb4 hK4 _ _ _ _ _ _)
set_option maxRecDepth 100000 in
theorem b_L_law_b4 {l : Launch} {G : gG} (hl : l.stackTraces = false) {Q : State → Array Value → List Frame → Prop} {Z : State → Prop} {b N : Nat} {xs : Nat → Int32} (hX : g_scr G Q b N xs) (hret : ∀ (pc : Nat) (L : List (Option Value)) (h : gH) (k n : Nat) (v : Int32), decode code pc = .ok (.ireturn, 1) → k ≤ 600086 → n ≤ 7301442 → GX l G M_L_law (g_phS Q Z) k n pc L [.int v] h (some (v, h))) : ∀ (n kb4 nb4 : Nat), kb4 + n * 9458 ≤ 28374 → nb4 + n * 56546 ≤ 169638 → ∀ (h : gH) (l1 : Int32) (l2 : Int32), GX l G M_L_law (g_phS Q Z) kb4 nb4 4 [some (.ref b), some (.int l1), some (.int l2), none, none, none, none, none, none, none, none, none, none, none, none, none, none, none, none, none, none, none, none, none, none] [] h (f_L_law_b4 G xs N n h l1 l2) := by
  intro n
  induction n with
  | zero => intros; exact X_none
  | succ n ih =>
    intro kb4 nb4 hk0 hn0 h l1 l2
    have hkb4 : kb4 + 9458 ≤ 28374 := by omega
    have hnb4 : nb4 + 56546 ≤ 169638 := by omega
    rw [f_L_law_b4]
    refine X_iload_n rfl rfl rfl ?_
    refine X_aload_n rfl rfl rfl ?_
    refine X_sln hX rfl rfl ?_
    refine X_bicmp_ge rfl rfl (fun _ => ?_) (fun _ => ?_)
    · refine X_iload_n rfl rfl rfl ?_
      refine X_iconst (v := 2) rfl rfl (by decide) ?_
      refine X_bicmp_ge rfl rfl (fun _ => ?_) (fun _ => ?_)
      · refine X_iload_n rfl rfl rfl ?_
        refine X_bif_eq rfl rfl (fun _ => ?_) (fun _ => ?_)
        · refine X_iload_n rfl rfl rfl ?_
          exact hret _ _ _ _ _ _ (by decide +kernel) (by show kb4 ≤ 600086; omega) (by show nb4 ≤ 7301442; omega)
        · refine X_newO (k1 := kb4 + 1) (n1 := nb4 + 6) rfl rfl (by show kb4 + 1 = kb4 + 1; omega) (by show nb4 + 6 = nb4 + 6; omega) (X_ble (by show kb4 + 1 ≤ 600086; omega)) (X_ble (by show nb4 + 6 ≤ 7301442; omega)) (fun h19 => ?_)
          refine X_dup rfl rfl rfl ?_
          refine X_kI_U (k1 := kb4 + 614) (n1 := nb4 + 11707) (M' := M_X7_init) (nA := 0) (As := []) (st := [.ref h.1]) (b := h.1) rfl rfl (by decide +kernel) rfl rfl rfl (by show kb4 + 1 + 613 = kb4 + 614; omega) (by show nb4 + 6 + 11701 = nb4 + 11707; omega) (X_ble (by show kb4 + 614 ≤ 600086; omega)) (X_ble (by show nb4 + 11707 ≤ 7301442; omega)) (fun _ e => ct_X7_init  e) (fun h23 => ?_)
          refine X_astore_n rfl rfl rfl rfl ?_
          refine X_bipush (v := 8) rfl rfl (by decide) ?_
          refine X_nwI (k1 := kb4 + 615) (n1 := nb4 + 11715) (B := 8) rfl rfl (by show kb4 + 614 + 1 = kb4 + 615; omega) (by show nb4 + 11707 + 8 = nb4 + 11715; omega) rfl (X_ble (by show kb4 + 615 ≤ 600086; omega)) (X_ble (by show nb4 + 11715 ≤ 7301442; omega)) (fun h29 => ?_)
          refine X_astore rfl rfl rfl rfl ?_
          refine X_newO (k1 := kb4 + 616) (n1 := nb4 + 11716) rfl rfl (by show kb4 + 615 + 1 = kb4 + 616; omega) (by show nb4 + 11715 + 1 = nb4 + 11716; omega) (X_ble (by show kb4 + 616 ≤ 600086; omega)) (X_ble (by show nb4 + 11716 ≤ 7301442; omega)) (fun h33 => ?_)
          refine X_dup rfl rfl rfl ?_
          refine X_aload_n rfl rfl rfl ?_
          refine X_iload_n rfl rfl rfl ?_
          refine X_sldB hX rfl rfl (fun v39 => ?_)
          refine X_kI_U (k1 := kb4 + 616) (n1 := nb4 + 11716) (M' := M_X11_init) (nA := 1) (As := [.int v39]) (st := [.ref h29.1]) (b := h29.1) rfl rfl (by decide +kernel) rfl rfl rfl (by show kb4 + 616 + 0 = kb4 + 616; omega) (by show nb4 + 11716 + 0 = nb4 + 11716; omega) (X_ble (by show kb4 + 616 ≤ 600086; omega)) (X_ble (by show nb4 + 11716 ≤ 7301442; omega)) (fun _ e => ct_X11_init  e) (fun h40 => ?_)
          refine X_astore rfl rfl rfl rfl ?_
          refine X_aload_n rfl rfl rfl ?_
          refine X_newO (k1 := kb4 + 617) (n1 := nb4 + 11728) rfl rfl (by show kb4 + 616 + 1 = kb4 + 617; omega) (by show nb4 + 11716 + 12 = nb4 + 11728; omega) (X_ble (by show kb4 + 617 ≤ 600086; omega)) (X_ble (by show nb4 + 11728 ≤ 7301442; omega)) (fun h46 => ?_)
          refine X_dup rfl rfl rfl ?_
          refine X_kIH_U (k1 := kb4 + 625) (n1 := nb4 + 11764) (M' := M_X10_init) (nA := 0) (As := []) (st := [.ref h40.1, .ref h.1]) (b := h40.1) rfl rfl (by decide +kernel) rfl rfl rfl (by show kb4 + 617 + 8 = kb4 + 625; omega) (by show nb4 + 11728 + 36 = nb4 + 11764; omega) (X_ble (by show kb4 + 625 ≤ 600086; omega)) (X_ble (by show nb4 + 11764 ≤ 7301442; omega)) (fun _ e => ct_X10_init  e) (fun h50 => ?_)
          refine X_kS_I (k1 := kb4 + 644) (n1 := nb4 + 11878) (M' := M_L_agrees) (nA := 2) (As := [.ref h.1, .ref h40.1]) (st := []) rfl rfl (by decide +kernel) rfl rfl rfl (by show kb4 + 625 + 19 = kb4 + 644; omega) (by show nb4 + 11764 + 114 = nb4 + 11878; omega) (X_ble (by show kb4 + 644 ≤ 600086; omega)) (X_ble (by show nb4 + 11878 ≤ 7301442; omega)) (fun _ _ e => ct_L_agrees hl  e) (fun y53 => ?_)
          refine X_bif_eq rfl rfl (fun _ => ?_) (fun _ => ?_)
          · refine X_wid (k' := kb4 + 653) (n' := nb4 + 11932) (by omega) (by omega) ?_
            exact X_sub (g_sub_s (g_sub_n (g_sub_s (g_sub_s (g_sub_s (g_sub_s (g_sub_n (g_sub_n (g_sub_n (g_sub_n (g_sub_n (g_sub_n (g_sub_n (g_sub_n (g_sub_n (g_sub_n (g_sub_n (g_sub_n (g_sub_n (g_sub_n (g_sub_n (g_sub_n (g_sub_n (g_sub_n (g_sub_n g_sub_0))))))))))))))))))))))))) (b_L_law_b196 hl hX hret hkb4 hnb4 (ih _ _ (by omega) (by omega)) _ _ _ _ _)
          · refine X_aload_n rfl rfl rfl ?_
            refine X_callV_IR (M' := M_X7_errorOffset) (nA := 0) (As := []) (st := []) (b := h.1) (ci := 7) rfl rfl (by decide +kernel) rfl rfl rfl rfl rfl rfl (X_ble (by show kb4 + 644 ≤ 600086; omega)) (X_ble (by show nb4 + 11878 ≤ 7301442; omega)) (fun _ e => ct_X7_errorOffset  e) (fun v60 => ?_)
            refine X_iconst (v := -1) rfl rfl (by decide) ?_
            refine X_bicmp_ne rfl rfl (fun _ => ?_) (fun _ => ?_)
            · refine X_aload_n rfl rfl rfl ?_
              refine X_kV_I (k1 := kb4 + 644) (n1 := nb4 + 11878) (M' := M_X7_undo) (nA := 0) (As := []) (st := []) (b := h.1) (ci := 7) rfl rfl (by decide +kernel) rfl rfl rfl rfl (by show kb4 + 644 + 0 = kb4 + 644; omega) (by show nb4 + 11878 + 0 = nb4 + 11878; omega) (X_ble (by show kb4 + 644 ≤ 600086; omega)) (X_ble (by show nb4 + 11878 ≤ 7301442; omega)) (fun _ _ e => ct_X7_undo  e) (fun y68 => ?_)
              refine X_iconst (v := -1) rfl rfl (by decide) ?_
              refine X_bicmp_ne rfl rfl (fun _ => ?_) (fun _ => ?_)
              · refine X_aload_n rfl rfl rfl ?_
                refine X_iconst (v := 0) rfl rfl (by decide) ?_
                refine X_kY_I (k1 := kb4 + 645) (n1 := nb4 + 11884) (M' := M_L_cancel) (nA := 2) (As := [.ref h.1, .int 0]) (st := []) rfl rfl (by decide +kernel) rfl rfl rfl (by show kb4 + 644 + 1 = kb4 + 645; omega) (by show nb4 + 11878 + 6 = nb4 + 11884; omega) (X_ble (by show kb4 + 645 ≤ 600086; omega)) (X_ble (by show nb4 + 11884 ≤ 7301442; omega)) (fun _ _ e => cy_L_cancel hl  e) (fun y77 => ?_)
                refine X_ldc (v := -2000000097) rfl rfl (by decide +kernel) ?_
                refine X_bicmp_ne rfl rfl (fun _ => ?_) (fun _ => ?_)
                · refine X_aload_n rfl rfl rfl ?_
                  refine X_bipush (v := 101) rfl rfl (by decide) ?_
                  refine X_kY_I (k1 := kb4 + 646) (n1 := nb4 + 11890) (M' := M_L_pass) (nA := 2) (As := [.ref h.1, .int 101]) (st := []) rfl rfl (by decide +kernel) rfl rfl rfl (by show kb4 + 645 + 1 = kb4 + 646; omega) (by show nb4 + 11884 + 6 = nb4 + 11890; omega) (X_ble (by show kb4 + 646 ≤ 600086; omega)) (X_ble (by show nb4 + 11890 ≤ 7301442; omega)) (fun _ _ e => cy_L_pass hl  e) (fun y88 => ?_)
                  refine X_ldc (v := -2000000098) rfl rfl (by decide +kernel) ?_
                  refine X_bicmp_ne rfl rfl (fun _ => ?_) (fun _ => ?_)
                  · refine X_aload_n rfl rfl rfl ?_
                    refine X_iconst (v := 2) rfl rfl (by decide) ?_
                    refine X_iconst (v := 0) rfl rfl (by decide) ?_
                    refine X_iconst (v := 1) rfl rfl (by decide) ?_
                    refine X_kY_I (k1 := kb4 + 647) (n1 := nb4 + 11896) (M' := M_L_send) (nA := 4) (As := [.ref h.1, .int 2, .int 0, .int 1]) (st := []) rfl rfl (by decide +kernel) rfl rfl rfl (by show kb4 + 646 + 1 = kb4 + 647; omega) (by show nb4 + 11890 + 6 = nb4 + 11896; omega) (X_ble (by show kb4 + 647 ≤ 600086; omega)) (X_ble (by show nb4 + 11896 ≤ 7301442; omega)) (fun _ _ e => cy_L_send hl  e) (fun y100 => ?_)
                    refine X_ldc (v := -2000000097) rfl rfl (by decide +kernel) ?_
                    refine X_bicmp_ne rfl rfl (fun _ => ?_) (fun _ => ?_)
                    · refine X_aload_n rfl rfl rfl ?_
                      refine X_iconst (v := 0) rfl rfl (by decide) ?_
                      refine X_iconst (v := 0) rfl rfl (by decide) ?_
                      refine X_iconst (v := 1) rfl rfl (by decide) ?_
                      refine X_kY_I (k1 := kb4 + 648) (n1 := nb4 + 11902) (M' := M_L_send) (nA := 4) (As := [.ref h.1, .int 0, .int 0, .int 1]) (st := []) rfl rfl (by decide +kernel) rfl rfl rfl (by show kb4 + 647 + 1 = kb4 + 648; omega) (by show nb4 + 11896 + 6 = nb4 + 11902; omega) (X_ble (by show kb4 + 648 ≤ 600086; omega)) (X_ble (by show nb4 + 11902 ≤ 7301442; omega)) (fun _ _ e => cy_L_send hl  e) (fun y112 => ?_)
                      refine X_ldc (v := -2000000098) rfl rfl (by decide +kernel) ?_
                      refine X_bicmp_ne rfl rfl (fun _ => ?_) (fun _ => ?_)
                      · refine X_aload_n rfl rfl rfl ?_
                        refine X_iconst (v := 5) rfl rfl (by decide) ?_
                        refine X_iconst (v := 4) rfl rfl (by decide) ?_
                        refine X_iconst (v := 0) rfl rfl (by decide) ?_
                        refine X_kY_I (k1 := kb4 + 649) (n1 := nb4 + 11908) (M' := M_L_fog) (nA := 4) (As := [.ref h.1, .int 5, .int 4, .int 0]) (st := []) rfl rfl (by decide +kernel) rfl rfl rfl (by show kb4 + 648 + 1 = kb4 + 649; omega) (by show nb4 + 11902 + 6 = nb4 + 11908; omega) (X_ble (by show kb4 + 649 ≤ 600086; omega)) (X_ble (by show nb4 + 11908 ≤ 7301442; omega)) (fun _ _ e => cy_L_fog hl  e) (fun y124 => ?_)
                        refine X_ldc (v := -2000000098) rfl rfl (by decide +kernel) ?_
                        refine X_bicmp_ne rfl rfl (fun _ => ?_) (fun _ => ?_)
                        · refine X_aload_n rfl rfl rfl ?_
                          refine X_iconst (v := 0) rfl rfl (by decide) ?_
                          refine X_bipush (v := 26) rfl rfl (by decide) ?_
                          refine X_kY_I (k1 := kb4 + 650) (n1 := nb4 + 11914) (M' := M_L_relieve) (nA := 3) (As := [.ref h.1, .int 0, .int 26]) (st := []) rfl rfl (by decide +kernel) rfl rfl rfl (by show kb4 + 649 + 1 = kb4 + 650; omega) (by show nb4 + 11908 + 6 = nb4 + 11914; omega) (X_ble (by show kb4 + 650 ≤ 600086; omega)) (X_ble (by show nb4 + 11914 ≤ 7301442; omega)) (fun _ _ e => cy_L_relieve hl  e) (fun y136 => ?_)
                          refine X_ldc (v := -2000000098) rfl rfl (by decide +kernel) ?_
                          refine X_bicmp_ne rfl rfl (fun _ => ?_) (fun _ => ?_)
                          · refine X_aload_n rfl rfl rfl ?_
                            refine X_iconst (v := 1) rfl rfl (by decide) ?_
                            refine X_bipush (v := 7) rfl rfl (by decide) ?_
                            refine X_kY_I (k1 := kb4 + 651) (n1 := nb4 + 11920) (M' := M_L_relieve) (nA := 3) (As := [.ref h.1, .int 1, .int 7]) (st := []) rfl rfl (by decide +kernel) rfl rfl rfl (by show kb4 + 650 + 1 = kb4 + 651; omega) (by show nb4 + 11914 + 6 = nb4 + 11920; omega) (X_ble (by show kb4 + 651 ≤ 600086; omega)) (X_ble (by show nb4 + 11920 ≤ 7301442; omega)) (fun _ _ e => cy_L_relieve hl  e) (fun y148 => ?_)
                            refine X_bif_ne rfl rfl (fun _ => ?_) (fun _ => ?_)
                            · refine X_aload_n rfl rfl rfl ?_
                              refine X_iconst (v := 1) rfl rfl (by decide) ?_
                              refine X_bipush (v := 9) rfl rfl (by decide) ?_
                              refine X_kY_I (k1 := kb4 + 652) (n1 := nb4 + 11926) (M' := M_L_relieve) (nA := 3) (As := [.ref h.1, .int 1, .int 9]) (st := []) rfl rfl (by decide +kernel) rfl rfl rfl (by show kb4 + 651 + 1 = kb4 + 652; omega) (by show nb4 + 11920 + 6 = nb4 + 11926; omega) (X_ble (by show kb4 + 652 ≤ 600086; omega)) (X_ble (by show nb4 + 11926 ≤ 7301442; omega)) (fun _ _ e => cy_L_relieve hl  e) (fun y158 => ?_)
                              refine X_bipush (v := 7) rfl rfl (by decide) ?_
                              refine X_bicmp_ne rfl rfl (fun _ => ?_) (fun _ => ?_)
                              · refine X_aload_n rfl rfl rfl ?_
                                refine X_iconst (v := 1) rfl rfl (by decide) ?_
                                refine X_iconst (v := 0) rfl rfl (by decide) ?_
                                refine X_kY_I (k1 := kb4 + 653) (n1 := nb4 + 11932) (M' := M_L_key) (nA := 3) (As := [.ref h.1, .int 1, .int 0]) (st := []) rfl rfl (by decide +kernel) rfl rfl rfl (by show kb4 + 652 + 1 = kb4 + 653; omega) (by show nb4 + 11926 + 6 = nb4 + 11932; omega) (X_ble (by show kb4 + 653 ≤ 600086; omega)) (X_ble (by show nb4 + 11932 ≤ 7301442; omega)) (fun _ _ e => cy_L_key hl  e) (fun y169 => ?_)
                                refine X_bipush (v := 9) rfl rfl (by decide) ?_
                                refine X_bicmp_ne rfl rfl (fun _ => ?_) (fun _ => ?_)
                                · refine X_aload_n rfl rfl rfl ?_
                                  refine X_kV_I (k1 := kb4 + 653) (n1 := nb4 + 11932) (M' := M_X7_undo) (nA := 0) (As := []) (st := []) (b := h.1) (ci := 7) rfl rfl (by decide +kernel) rfl rfl rfl rfl (by show kb4 + 653 + 0 = kb4 + 653; omega) (by show nb4 + 11932 + 0 = nb4 + 11932; omega) (X_ble (by show kb4 + 653 ≤ 600086; omega)) (X_ble (by show nb4 + 11932 ≤ 7301442; omega)) (fun _ _ e => ct_X7_undo  e) (fun y178 => ?_)
                                  refine X_iconst (v := 1) rfl rfl (by decide) ?_
                                  refine X_bicmp_ne rfl rfl (fun _ => ?_) (fun _ => ?_)
                                  · refine X_aload_n rfl rfl rfl ?_
                                    refine X_kV_I (k1 := kb4 + 653) (n1 := nb4 + 11932) (M' := M_X7_undo) (nA := 0) (As := []) (st := []) (b := h.1) (ci := 7) rfl rfl (by decide +kernel) rfl rfl rfl rfl (by show kb4 + 653 + 0 = kb4 + 653; omega) (by show nb4 + 11932 + 0 = nb4 + 11932; omega) (X_ble (by show kb4 + 653 ≤ 600086; omega)) (X_ble (by show nb4 + 11932 ≤ 7301442; omega)) (fun _ _ e => ct_X7_undo  e) (fun y186 => ?_)
                                    refine X_bif_ne rfl rfl (fun _ => ?_) (fun _ => ?_)
                                    · refine X_iconst (v := 1) rfl rfl (by decide) ?_
                                      refine X_goto rfl rfl ?_
                                      exact X_sub (g_sub_s (g_sub_n (g_sub_s (g_sub_s (g_sub_s (g_sub_s (g_sub_n (g_sub_n (g_sub_n (g_sub_n (g_sub_n (g_sub_n (g_sub_n (g_sub_n (g_sub_n (g_sub_n (g_sub_n (g_sub_n (g_sub_n (g_sub_n (g_sub_n (g_sub_n (g_sub_n (g_sub_n (g_sub_n g_sub_0))))))))))))))))))))))))) (b_L_law_b197 hl hX hret hkb4 hnb4 (ih _ _ (by omega) (by omega)) _ _ _ _ _ _)
                                    · exact X_sub (g_sub_s (g_sub_n (g_sub_s (g_sub_s (g_sub_s (g_sub_s (g_sub_n (g_sub_n (g_sub_n (g_sub_n (g_sub_n (g_sub_n (g_sub_n (g_sub_n (g_sub_n (g_sub_n (g_sub_n (g_sub_n (g_sub_n (g_sub_n (g_sub_n (g_sub_n (g_sub_n (g_sub_n (g_sub_n g_sub_0))))))))))))))))))))))))) (b_L_law_b196 hl hX hret hkb4 hnb4 (ih _ _ (by omega) (by omega)) _ _ _ _ _)
                                  · exact X_sub (g_sub_s (g_sub_n (g_sub_s (g_sub_s (g_sub_s (g_sub_s (g_sub_n (g_sub_n (g_sub_n (g_sub_n (g_sub_n (g_sub_n (g_sub_n (g_sub_n (g_sub_n (g_sub_n (g_sub_n (g_sub_n (g_sub_n (g_sub_n (g_sub_n (g_sub_n (g_sub_n (g_sub_n (g_sub_n g_sub_0))))))))))))))))))))))))) (b_L_law_b196 hl hX hret hkb4 hnb4 (ih _ _ (by omega) (by omega)) _ _ _ _ _)
                                · exact X_sub (g_sub_s (g_sub_n (g_sub_s (g_sub_s (g_sub_s (g_sub_s (g_sub_n (g_sub_n (g_sub_n (g_sub_n (g_sub_n (g_sub_n (g_sub_n (g_sub_n (g_sub_n (g_sub_n (g_sub_n (g_sub_n (g_sub_n (g_sub_n (g_sub_n (g_sub_n (g_sub_n (g_sub_n (g_sub_n g_sub_0))))))))))))))))))))))))) (b_L_law_b196 hl hX hret hkb4 hnb4 (ih _ _ (by omega) (by omega)) _ _ _ _ _)
                              · refine X_wid (k' := kb4 + 653) (n' := nb4 + 11932) (by omega) (by omega) ?_
                                exact X_sub (g_sub_s (g_sub_n (g_sub_s (g_sub_s (g_sub_s (g_sub_s (g_sub_n (g_sub_n (g_sub_n (g_sub_n (g_sub_n (g_sub_n (g_sub_n (g_sub_n (g_sub_n (g_sub_n (g_sub_n (g_sub_n (g_sub_n (g_sub_n (g_sub_n (g_sub_n (g_sub_n (g_sub_n (g_sub_n g_sub_0))))))))))))))))))))))))) (b_L_law_b196 hl hX hret hkb4 hnb4 (ih _ _ (by omega) (by omega)) _ _ _ _ _)
                            · refine X_wid (k' := kb4 + 653) (n' := nb4 + 11932) (by omega) (by omega) ?_
                              exact X_sub (g_sub_s (g_sub_n (g_sub_s (g_sub_s (g_sub_s (g_sub_s (g_sub_n (g_sub_n (g_sub_n (g_sub_n (g_sub_n (g_sub_n (g_sub_n (g_sub_n (g_sub_n (g_sub_n (g_sub_n (g_sub_n (g_sub_n (g_sub_n (g_sub_n (g_sub_n (g_sub_n (g_sub_n (g_sub_n g_sub_0))))))))))))))))))))))))) (b_L_law_b196 hl hX hret hkb4 hnb4 (ih _ _ (by omega) (by omega)) _ _ _ _ _)
                          · refine X_wid (k' := kb4 + 653) (n' := nb4 + 11932) (by omega) (by omega) ?_
                            exact X_sub (g_sub_s (g_sub_n (g_sub_s (g_sub_s (g_sub_s (g_sub_s (g_sub_n (g_sub_n (g_sub_n (g_sub_n (g_sub_n (g_sub_n (g_sub_n (g_sub_n (g_sub_n (g_sub_n (g_sub_n (g_sub_n (g_sub_n (g_sub_n (g_sub_n (g_sub_n (g_sub_n (g_sub_n (g_sub_n g_sub_0))))))))))))))))))))))))) (b_L_law_b196 hl hX hret hkb4 hnb4 (ih _ _ (by omega) (by omega)) _ _ _ _ _)
                        · refine X_wid (k' := kb4 + 653) (n' := nb4 + 11932) (by omega) (by omega) ?_
                          exact X_sub (g_sub_s (g_sub_n (g_sub_s (g_sub_s (g_sub_s (g_sub_s (g_sub_n (g_sub_n (g_sub_n (g_sub_n (g_sub_n (g_sub_n (g_sub_n (g_sub_n (g_sub_n (g_sub_n (g_sub_n (g_sub_n (g_sub_n (g_sub_n (g_sub_n (g_sub_n (g_sub_n (g_sub_n (g_sub_n g_sub_0))))))))))))))))))))))))) (b_L_law_b196 hl hX hret hkb4 hnb4 (ih _ _ (by omega) (by omega)) _ _ _ _ _)
                      · refine X_wid (k' := kb4 + 653) (n' := nb4 + 11932) (by omega) (by omega) ?_
                        exact X_sub (g_sub_s (g_sub_n (g_sub_s (g_sub_s (g_sub_s (g_sub_s (g_sub_n (g_sub_n (g_sub_n (g_sub_n (g_sub_n (g_sub_n (g_sub_n (g_sub_n (g_sub_n (g_sub_n (g_sub_n (g_sub_n (g_sub_n (g_sub_n (g_sub_n (g_sub_n (g_sub_n (g_sub_n (g_sub_n g_sub_0))))))))))))))))))))))))) (b_L_law_b196 hl hX hret hkb4 hnb4 (ih _ _ (by omega) (by omega)) _ _ _ _ _)
                    · refine X_wid (k' := kb4 + 653) (n' := nb4 + 11932) (by omega) (by omega) ?_
                      exact X_sub (g_sub_s (g_sub_n (g_sub_s (g_sub_s (g_sub_s (g_sub_s (g_sub_n (g_sub_n (g_sub_n (g_sub_n (g_sub_n (g_sub_n (g_sub_n (g_sub_n (g_sub_n (g_sub_n (g_sub_n (g_sub_n (g_sub_n (g_sub_n (g_sub_n (g_sub_n (g_sub_n (g_sub_n (g_sub_n g_sub_0))))))))))))))))))))))))) (b_L_law_b196 hl hX hret hkb4 hnb4 (ih _ _ (by omega) (by omega)) _ _ _ _ _)
                  · refine X_wid (k' := kb4 + 653) (n' := nb4 + 11932) (by omega) (by omega) ?_
                    exact X_sub (g_sub_s (g_sub_n (g_sub_s (g_sub_s (g_sub_s (g_sub_s (g_sub_n (g_sub_n (g_sub_n (g_sub_n (g_sub_n (g_sub_n (g_sub_n (g_sub_n (g_sub_n (g_sub_n (g_sub_n (g_sub_n (g_sub_n (g_sub_n (g_sub_n (g_sub_n (g_sub_n (g_sub_n (g_sub_n g_sub_0))))))))))))))))))))))))) (b_L_law_b196 hl hX hret hkb4 hnb4 (ih _ _ (by omega) (by omega)) _ _ _ _ _)
                · refine X_wid (k' := kb4 + 653) (n' := nb4 + 11932) (by omega) (by omega) ?_
                  exact X_sub (g_sub_s (g_sub_n (g_sub_s (g_sub_s (g_sub_s (g_sub_s (g_sub_n (g_sub_n (g_sub_n (g_sub_n (g_sub_n (g_sub_n (g_sub_n (g_sub_n (g_sub_n (g_sub_n (g_sub_n (g_sub_n (g_sub_n (g_sub_n (g_sub_n (g_sub_n (g_sub_n (g_sub_n (g_sub_n g_sub_0))))))))))))))))))))))))) (b_L_law_b196 hl hX hret hkb4 hnb4 (ih _ _ (by omega) (by omega)) _ _ _ _ _)
              · refine X_wid (k' := kb4 + 653) (n' := nb4 + 11932) (by omega) (by omega) ?_
                exact X_sub (g_sub_s (g_sub_n (g_sub_s (g_sub_s (g_sub_s (g_sub_s (g_sub_n (g_sub_n (g_sub_n (g_sub_n (g_sub_n (g_sub_n (g_sub_n (g_sub_n (g_sub_n (g_sub_n (g_sub_n (g_sub_n (g_sub_n (g_sub_n (g_sub_n (g_sub_n (g_sub_n (g_sub_n (g_sub_n g_sub_0))))))))))))))))))))))))) (b_L_law_b196 hl hX hret hkb4 hnb4 (ih _ _ (by omega) (by omega)) _ _ _ _ _)
            · refine X_wid (k' := kb4 + 653) (n' := nb4 + 11932) (by omega) (by omega) ?_
              exact X_sub (g_sub_s (g_sub_n (g_sub_s (g_sub_s (g_sub_s (g_sub_s (g_sub_n (g_sub_n (g_sub_n (g_sub_n (g_sub_n (g_sub_n (g_sub_n (g_sub_n (g_sub_n (g_sub_n (g_sub_n (g_sub_n (g_sub_n (g_sub_n (g_sub_n (g_sub_n (g_sub_n (g_sub_n (g_sub_n g_sub_0))))))))))))))))))))))))) (b_L_law_b196 hl hX hret hkb4 hnb4 (ih _ _ (by omega) (by omega)) _ _ _ _ _)
      · refine X_iload_n rfl rfl rfl ?_
        exact hret _ _ _ _ _ _ (by decide +kernel) (by show kb4 ≤ 600086; omega) (by show nb4 ≤ 7301442; omega)
    · refine X_iload_n rfl rfl rfl ?_
      exact hret _ _ _ _ _ _ (by decide +kernel) (by show kb4 ≤ 600086; omega) (by show nb4 ≤ 7301442; omega)
set_option maxRecDepth 100000 in
theorem gx_L_law {l : Launch} {G : gG} (hl : l.stackTraces = false) {Q : State → Array Value → List Frame → Prop} {Z : State → Prop} {b N : Nat} {xs : Nat → Int32} (hX : g_scr G Q b N xs) (hret : ∀ (pc : Nat) (L : List (Option Value)) (h : gH) (k n : Nat) (v : Int32), decode code pc = .ok (.ireturn, 1) → k ≤ 600086 → n ≤ 7301442 → GX l G M_L_law (g_phS Q Z) k n pc L [.int v] h (some (v, h))) (h : gH) : GX l G M_L_law (g_phS Q Z) 0 0 0 [some (.ref b), none, none, none, none, none, none, none, none, none, none, none, none, none, none, none, none, none, none, none, none, none, none, none, none] [] h (f_L_law G xs N h) := by
  unfold f_L_law
  refine X_iconst (v := 1) rfl rfl (by decide) ?_
  refine X_istore_n rfl rfl rfl rfl ?_
  refine X_iconst (v := 0) rfl rfl (by decide) ?_
  refine X_istore_n rfl rfl rfl rfl ?_
  exact X_sub (g_sub_s (g_sub_s (g_sub_s (g_sub_n (g_sub_n (g_sub_n (g_sub_n (g_sub_n (g_sub_n (g_sub_n (g_sub_n (g_sub_n (g_sub_n (g_sub_n (g_sub_n (g_sub_n (g_sub_n (g_sub_n (g_sub_n (g_sub_n (g_sub_n (g_sub_n (g_sub_n (g_sub_n (g_sub_n g_sub_0))))))))))))))))))))))))) (b_L_law_b4 hl hX hret 3 _ _ (by omega) (by omega) _ _ _)
