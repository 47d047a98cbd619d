def f_L_randomLine_b212 (G : gG) (K65 : gH → Nat → Nat → Nat → Nat → Int32 → Option (Option Nat × gH)) (h : gH) (l0 : Nat) (l1 : Nat) (l2 : Nat) (l3 : Nat) (l4 : Int32) : Option (Option Nat × gH) :=
  K65 h l0 l1 l2 l3 (l4 + 1)
def f_L_randomLine_b148 (G : gG) (K65 : gH → Nat → Nat → Nat → Nat → Int32 → Option (Option Nat × gH)) (h : gH) (l0 : Nat) (l1 : Nat) (l2 : Nat) (l3 : Nat) (l4 : Int32) (s0 : Int32) (s1 : Nat) : Option (Option Nat × gH) :=
  (g_put h s1 9 2 (.int s0)).bind fun h148 =>
  (g_nwI h148 4 4).bind fun h156 =>
  (g_ast h156 h148.1 0 l4).bind fun h162 =>
  (g_gA h162 l3 10 0).bind fun v166 =>
  (g_qld h162 v166 7 l4).bind fun v171 =>
  v171.bind fun v171n =>
  (g_gI h162 v171n 9 0).bind fun v172 =>
  (g_ast h162 h148.1 1 v172).bind fun h175 =>
  (g_gA h175 l3 10 0).bind fun v179 =>
  (g_qld h175 v179 7 l4).bind fun v184 =>
  v184.bind fun v184n =>
  (g_gI h175 v184n 9 1).bind fun v185 =>
  (g_ast h175 h148.1 2 v185).bind fun h188 =>
  (g_gA h188 l3 10 0).bind fun v192 =>
  (g_qld h188 v192 7 l4).bind fun v197 =>
  v197.bind fun v197n =>
  (g_gI h188 v197n 9 2).bind fun v198 =>
  (g_ast h188 h148.1 3 v198).bind fun h201 =>
  (f_L_writeAll G h201 l0 l1 (g_aK G 1) h148.1).bind fun h202 =>
  (f_L_write G h202 l0 l1 (g_aK G 22)).bind fun h209 =>
  f_L_randomLine_b212 G K65 h209 l0 l1 l2 l3 l4
def f_L_randomLine_b301 (G : gG) (K225 : gH → Nat → Nat → Nat → Nat → Int32 → Option (Option Nat × gH)) (K262 : gH → Nat → Nat → Nat → Nat → Int32 → Int32 → Int32 → Int32 → Nat → Int32 → Int32 → Option (Option Nat × gH)) (h : gH) (l0 : Nat) (l1 : Nat) (l2 : Nat) (l3 : Nat) (l4 : Int32) (l5 : Int32) (l6 : Int32) (l8 : Nat) (l9 : Int32) (l10 : Int32) (s0 : Int32) (s1 : Int32) : Option (Option Nat × gH) :=
  K262 h l0 l1 l2 l3 l4 l5 l6 (s1 &&& s0) l8 l9 (l10 + 1)
def f_L_randomLine_b296 (G : gG) (K225 : gH → Nat → Nat → Nat → Nat → Int32 → Option (Option Nat × gH)) (K262 : gH → Nat → Nat → Nat → Nat → Int32 → Int32 → Int32 → Int32 → Nat → Int32 → Int32 → Option (Option Nat × gH)) (h : gH) (l0 : Nat) (l1 : Nat) (l2 : Nat) (l3 : Nat) (l4 : Int32) (l5 : Int32) (l6 : Int32) (l8 : Nat) (l9 : Int32) (l10 : Int32) (s0 : Int32) : Option (Option Nat × gH) :=
  f_L_randomLine_b301 G K225 K262 h l0 l1 l2 l3 l4 l5 l6 l8 l9 l10 1 s0
def f_L_randomLine_b387 (G : gG) (K225 : gH → Nat → Nat → Nat → Nat → Int32 → Option (Option Nat × gH)) (h : gH) (l0 : Nat) (l1 : Nat) (l2 : Nat) (l3 : Nat) (l4 : Int32) : Option (Option Nat × gH) :=
  K225 h l0 l1 l2 l3 (l4 + (-1))
def f_L_randomLine_b262 (G : gG) (K225 : gH → Nat → Nat → Nat → Nat → Int32 → Option (Option Nat × gH)) : Nat → gH → Nat → Nat → Nat → Nat → Int32 → Int32 → Int32 → Int32 → Nat → Int32 → Int32 → Option (Option Nat × gH)
  | 0, _, _, _, _, _, _, _, _, _, _, _, _ => none
  | n + 1, h, l0, l1, l2, l3, l4, l5, l6, l7, l8, l9, l10 =>
    (if l10 < l9 then
      (g_qld h l8 3 l10).bind fun v273 =>
      v273.bind fun v273n =>
      (g_ald h v273n 0).bind fun v281 =>
      (if v281 = l5 then
        (g_ald h v273n 1).bind fun v290 =>
        (if v290 = l6 then
          f_L_randomLine_b301 G K225 (f_L_randomLine_b262 G K225 n) h l0 l1 l2 l3 l4 l5 l6 l8 l9 l10 0 l7
        else
          f_L_randomLine_b296 G K225 (f_L_randomLine_b262 G K225 n) h l0 l1 l2 l3 l4 l5 l6 l8 l9 l10 l7)
      else
        f_L_randomLine_b296 G K225 (f_L_randomLine_b262 G K225 n) h l0 l1 l2 l3 l4 l5 l6 l8 l9 l10 l7)
    else
      (if l7 = 0 then
        f_L_randomLine_b387 G K225 h l0 l1 l2 l3 l4
      else
        bif g_is h l2 11 then
        (f_X11_below G h l2 26).bind fun y321 =>
        (g_gA y321.2 l3 10 2).bind fun v328 =>
        (g_nwI y321.2 3 3).bind fun h332 =>
        (g_ast h332 y321.2.1 0 l5).bind fun h338 =>
        (g_ast h338 y321.2.1 1 l6).bind fun h343 =>
        (g_ast h343 y321.2.1 2 y321.1).bind fun h348 =>
        (f_L_with G h348 v328 y321.2.1).bind fun y349 =>
        (g_put y349.2 l3 10 2 (.ref y349.1)).bind fun h352 =>
        (g_nwI h352 3 3).bind fun h360 =>
        (g_ast h360 h352.1 0 l5).bind fun h366 =>
        (g_ast h366 h352.1 1 l6).bind fun h371 =>
        (g_ast h371 h352.1 2 y321.1).bind fun h376 =>
        (f_L_writeAll G h376 l0 l1 (g_aK G 2) h352.1).bind fun h377 =>
        (f_L_write G h377 l0 l1 (g_aK G 22)).bind fun h384 =>
        f_L_randomLine_b387 G K225 h384 l0 l1 l2 l3 l4
        else none))
def f_L_randomLine_b509 (G : gG) : Nat → gH → Nat → Nat → Nat → Nat → Int32 → Int32 → Option (Option Nat × gH)
  | 0, _, _, _, _, _, _, _ => none
  | n + 1, h, l0, l1, l2, l3, l4, l5 =>
    (if l5 < l4 then
      bif g_is h l2 11 then
      (f_X11_below G h l2 2).bind fun y518 =>
      bif g_is y518.2 l2 11 then
      (f_X11_below G y518.2 l2 10).bind fun y526 =>
      (f_L_randomWord G y526.2 l2).bind fun y532 =>
      bif g_is y532.2 l3 10 then
      (f_X10_adds G y532.2 l3 y518.1 y526.1 y532.1).bind fun h544 =>
      (g_nwI h544 2 2).bind fun h552 =>
      (g_ast h552 h544.1 0 y518.1).bind fun h558 =>
      (g_ast h558 h544.1 1 y526.1).bind fun h563 =>
      (f_L_writeAll G h563 l0 l1 (g_aK G 4) h544.1).bind fun h564 =>
      (g_mk h564 (.inr (13, g_dfl 13))).bind fun h569 =>
      (f_T4_init_da8c8 G h569 h564.1).bind fun h573 =>
      bif g_is h573 h564.1 13 then
      (f_T4_append_15ec4 G h573 h564.1 (g_aK G 21)).bind fun y578 =>
      bif g_is y578.2 y578.1 13 then
      (f_T4_append_15ec4 G y578.2 y578.1 y532.1).bind fun y583 =>
      bif g_is y583.2 y583.1 13 then
      (f_T4_append_15ec4 G y583.2 y583.1 (g_aK G 22)).bind fun y588 =>
      bif g_is y588.2 y588.1 13 then
      (f_T4_toString_0e30d G y588.2 y588.1).bind fun y591 =>
      (f_L_write G y591.2 l0 l1 y591.1).bind fun h594 =>
      f_L_randomLine_b509 G n h594 l0 l1 l2 l3 l4 (l5 + 1)
      else none
      else none
      else none
      else none
      else none
      else none
      else none
    else
      (f_L_loadText G h l0 l1).bind fun y605 =>
      (if y605.1 = l4 then
        some (some l3, y605.2)
      else
        some (none, y605.2)))
def f_L_randomLine_b400 (G : gG) : Nat → gH → Nat → Nat → Nat → Nat → Int32 → Option (Option Nat × gH)
  | 0, _, _, _, _, _, _ => none
  | n + 1, h, l0, l1, l2, l3, l4 =>
    (if 0 < l4 then
      bif g_is h l2 11 then
      (f_X11_below G h l2 60).bind fun y408 =>
      bif g_is y408.2 l2 11 then
      (f_X11_below G y408.2 l2 12).bind fun y418 =>
      bif g_is y418.2 l2 11 then
      (f_X11_below G y418.2 l2 10).bind fun y427 =>
      (g_gA y427.2 l3 10 3).bind fun v434 =>
      (g_nwI y427.2 3 3).bind fun h438 =>
      (g_ast h438 y427.2.1 0 y408.1).bind fun h444 =>
      (g_ast h444 y427.2.1 1 (y408.1 + y418.1)).bind fun h449 =>
      (g_ast h449 y427.2.1 2 y427.1).bind fun h454 =>
      (f_L_with G h454 v434 y427.2.1).bind fun y455 =>
      (g_put y455.2 l3 10 3 (.ref y455.1)).bind fun h458 =>
      (g_nwI h458 3 3).bind fun h466 =>
      (g_ast h466 h458.1 0 y408.1).bind fun h472 =>
      (g_ast h472 h458.1 1 (y408.1 + y418.1)).bind fun h477 =>
      (g_ast h477 h458.1 2 y427.1).bind fun h482 =>
      (f_L_writeAll G h482 l0 l1 (g_aK G 3) h458.1).bind fun h483 =>
      (f_L_write G h483 l0 l1 (g_aK G 22)).bind fun h490 =>
      f_L_randomLine_b400 G n h490 l0 l1 l2 l3 (l4 + (-1))
      else none
      else none
      else none
    else
      bif g_is h l2 11 then
      (f_X11_below G h l2 4).bind fun y501 =>
      f_L_randomLine_b509 G 5 y501.2 l0 l1 l2 l3 y501.1 0
      else none)
def f_L_randomLine_b225 (G : gG) : Nat → gH → Nat → Nat → Nat → Nat → Int32 → Option (Option Nat × gH)
  | 0, _, _, _, _, _, _ => none
  | n + 1, h, l0, l1, l2, l3, l4 =>
    (if 0 < l4 then
      bif g_is h l2 11 then
      (f_X11_below G h l2 2).bind fun y232 =>
      bif g_is y232.2 l2 11 then
      (f_X11_below G y232.2 l2 40).bind fun y240 =>
      (g_gA y240.2 l3 10 2).bind fun v249 =>
      (g_aln y240.2 v249).bind fun v256 =>
      f_L_randomLine_b262 G (f_L_randomLine_b225 G n) g_N y240.2 l0 l1 l2 l3 l4 y232.1 y240.1 1 v249 v256 0
      else none
      else none
    else
      bif g_is h l2 11 then
      (f_X11_below G h l2 5).bind fun y395 =>
      f_L_randomLine_b400 G 6 y395.2 l0 l1 l2 l3 y395.1
      else none)
def f_L_randomLine_b65 (G : gG) : Nat → gH → Nat → Nat → Nat → Nat → Int32 → Option (Option Nat × gH)
  | 0, _, _, _, _, _, _ => none
  | n + 1, h, l0, l1, l2, l3, l4 =>
    (if l4 < 2 then
      bif g_is h l2 11 then
      (f_X11_below G h l2 3).bind fun y73 =>
      (if y73.1 = 0 then
        f_L_randomLine_b212 G (f_L_randomLine_b65 G n) y73.2 l0 l1 l2 l3 l4
      else
        (g_gA y73.2 l3 10 0).bind fun v83 =>
        (g_qld y73.2 v83 7 l4).bind fun v88 =>
        v88.bind fun v88n =>
        bif g_is y73.2 l2 11 then
        (f_X11_below G y73.2 l2 10).bind fun y92 =>
        (g_put y92.2 v88n 9 0 (.int y92.1)).bind fun h95 =>
        (g_gA h95 l3 10 0).bind fun v99 =>
        (g_qld h95 v99 7 l4).bind fun v104 =>
        v104.bind fun v104n =>
        bif g_is h95 l2 11 then
        (f_X11_below G h95 l2 24).bind fun y108 =>
        (g_put y108.2 v104n 9 1 (.int y108.1)).bind fun h111 =>
        (g_gA h111 l3 10 0).bind fun v115 =>
        (g_qld h111 v115 7 l4).bind fun v120 =>
        v120.bind fun v120n =>
        bif g_is h111 l2 11 then
        (f_X11_below G h111 l2 2).bind fun y123 =>
        (if y123.1 = 0 then
          (g_gA y123.2 l3 10 0).bind fun v130 =>
          (g_qld y123.2 v130 7 l4).bind fun v135 =>
          v135.bind fun v135n =>
          (g_gI y123.2 v135n 9 1).bind fun v136 =>
          f_L_randomLine_b148 G (f_L_randomLine_b65 G n) y123.2 l0 l1 l2 l3 l4 v136 v120n
        else
          bif g_is y123.2 l2 11 then
          (f_X11_below G y123.2 l2 24).bind fun y145 =>
          f_L_randomLine_b148 G (f_L_randomLine_b65 G n) y145.2 l0 l1 l2 l3 l4 y145.1 v120n
          else none)
        else none
        else none
        else none)
      else none
    else
      bif g_is h l2 11 then
      (f_X11_below G h l2 5).bind fun y220 =>
      f_L_randomLine_b225 G 6 y220.2 l0 l1 l2 l3 y220.1
      else none)
def f_L_randomLine (G : gG) (h : gH) (p0 : Nat) (p1 : Nat) (p2 : Nat) : Option (Option Nat × gH) :=
  (g_mk h (.inr (10, g_dfl 10))).bind fun h0 =>
  (f_X10_init G h0 h.1).bind fun h4 =>
  bif g_is h4 p2 11 then
  (f_X11_below G h4 p2 8).bind fun y13 =>
  (g_put y13.2 h.1 10 4 (.int (1 + y13.1))).bind fun h17 =>
  bif g_is h17 p2 11 then
  (f_X11_below G h17 p2 4).bind fun y24 =>
  (g_put y24.2 h.1 10 5 (.int (1 + y24.1))).bind fun h28 =>
  (g_nwI h28 2 2).bind fun h36 =>
  (g_gI h36 h.1 10 4).bind fun v41 =>
  (g_ast h36 h28.1 0 v41).bind fun h44 =>
  (g_gI h44 h.1 10 5).bind fun v48 =>
  (g_ast h44 h28.1 1 v48).bind fun h51 =>
  (f_L_writeAll G h51 p0 p1 (g_aK G 0) h28.1).bind fun h52 =>
  (f_L_write G h52 p0 p1 (g_aK G 22)).bind fun h59 =>
  f_L_randomLine_b65 G 3 h59 p0 p1 p2 h.1 0
  else none
  else none
set_option maxRecDepth 100000 in
theorem b_L_randomLine_b212 {l : Launch} {G : gG} (hl : l.stackTraces = false) {kb65 nb65 : Nat} {K65 : gH → Nat → Nat → Nat → Nat → Int32 → Option (Option Nat × gH)} (hkb65 : kb65 + 1 ≤ 13) (hnb65 : nb65 + 4 ≤ 62) (hK65 : ∀ (h : gH) (l0 : Nat) (l1 : Nat) (l2 : Nat) (l3 : Nat) (l4 : Int32), GX l G M_L_randomLine (g_phi G g_wQ (m_R M_L_randomLine).cells (m_R M_L_randomLine).slots) (kb65 + 1) (nb65 + 4) 65 [some (.ref l0), some (.ref l1), some (.ref l2), some (.ref l3), some (.int l4), none, none, none, none, none, none, none] [] h (K65 h l0 l1 l2 l3 l4)) (h : gH) (l0 : Nat) (l1 : Nat) (l2 : Nat) (l3 : Nat) (l4 : Int32) : GX l G M_L_randomLine (g_phi G g_wQ (m_R M_L_randomLine).cells (m_R M_L_randomLine).slots) (kb65 + 1) (nb65 + 4) 212 [some (.ref l0), some (.ref l1), some (.ref l2), some (.ref l3), some (.int l4), none, none, none, none, none, none, none] [] h (f_L_randomLine_b212 G K65 h l0 l1 l2 l3 l4) := by
  unfold f_L_randomLine_b212
  refine X_iinc (v := l4 + 1) rfl rfl rfl (congrArg (fun z => l4 + z) (by decide : Int32.ofInt 1 = 1)) rfl ?_
  refine X_goto rfl rfl ?_
  refine X_wid (k' := kb65 + 1) (n' := nb65 + 4) (by omega) (by omega) ?_
  exact X_sub (g_sub_s (g_sub_s (g_sub_s (g_sub_s (g_sub_s (g_sub_n (g_sub_n (g_sub_n (g_sub_n (g_sub_n (g_sub_n (g_sub_n g_sub_0)))))))))))) (hK65 _ _ _ _ _ _)
set_option maxRecDepth 100000 in
theorem b_L_randomLine_b148 {l : Launch} {G : gG} (hl : l.stackTraces = false) {kb65 nb65 : Nat} {K65 : gH → Nat → Nat → Nat → Nat → Int32 → Option (Option Nat × gH)} (hkb65 : kb65 + 1 ≤ 13) (hnb65 : nb65 + 4 ≤ 62) (hK65 : ∀ (h : gH) (l0 : Nat) (l1 : Nat) (l2 : Nat) (l3 : Nat) (l4 : Int32), GX l G M_L_randomLine (g_phi G g_wQ (m_R M_L_randomLine).cells (m_R M_L_randomLine).slots) (kb65 + 1) (nb65 + 4) 65 [some (.ref l0), some (.ref l1), some (.ref l2), some (.ref l3), some (.int l4), none, none, none, none, none, none, none] [] h (K65 h l0 l1 l2 l3 l4)) (h : gH) (l0 : Nat) (l1 : Nat) (l2 : Nat) (l3 : Nat) (l4 : Int32) (s0 : Int32) (s1 : Nat) : GX l G M_L_randomLine (g_phi G g_wQ (m_R M_L_randomLine).cells (m_R M_L_randomLine).slots) kb65 nb65 148 [some (.ref l0), some (.ref l1), some (.ref l2), some (.ref l3), some (.int l4), none, none, none, none, none, none, none] [.int s0, .ref s1] h (f_L_randomLine_b148 G K65 h l0 l1 l2 l3 l4 s0 s1) := by
  unfold f_L_randomLine_b148
  refine X_put rfl rfl rfl rfl rfl (fun h148 => ?_)
  refine X_aload_n rfl rfl rfl ?_
  refine X_aload_n rfl rfl rfl ?_
  refine X_ldcG (i := 1) (tx := "channel") rfl rfl (by decide +kernel) ?_
  refine X_iconst (v := 4) rfl rfl (by decide) ?_
  refine X_nwI (k1 := kb65 + 1) (n1 := nb65 + 4) (B := 4) rfl rfl (by show kb65 + 1 = kb65 + 1; omega) (by show nb65 + 4 = nb65 + 4; omega) rfl (X_ble (by show kb65 + 1 ≤ 450; omega)) (X_ble (by show nb65 + 4 ≤ 3606; omega)) (fun h156 => ?_)
  refine X_dup rfl rfl rfl ?_
  refine X_iconst (v := 0) rfl rfl (by decide) ?_
  refine X_iload rfl rfl rfl ?_
  refine X_ast rfl rfl (fun h162 => ?_)
  refine X_dup rfl rfl rfl ?_
  refine X_iconst (v := 1) rfl rfl (by decide) ?_
  refine X_aload_n rfl rfl rfl ?_
  refine X_getA rfl rfl (fun v166 => ?_)
  refine X_iload rfl rfl rfl ?_
  refine X_qld9 (t := 7) rfl rfl (by simp) (fun v171 => ?_)
  refine X_nn (fun v171n e171 => ?_)
  subst e171
  refine X_getI rfl rfl (fun v172 => ?_)
  refine X_ast rfl rfl (fun h175 => ?_)
  refine X_dup rfl rfl rfl ?_
  refine X_iconst (v := 2) rfl rfl (by decide) ?_
  refine X_aload_n rfl rfl rfl ?_
  refine X_getA rfl rfl (fun v179 => ?_)
  refine X_iload rfl rfl rfl ?_
  refine X_qld9 (t := 7) rfl rfl (by simp) (fun v184 => ?_)
  refine X_nn (fun v184n e184 => ?_)
  subst e184
  refine X_getI rfl rfl (fun v185 => ?_)
  refine X_ast rfl rfl (fun h188 => ?_)
  refine X_dup rfl rfl rfl ?_
  refine X_iconst (v := 3) rfl rfl (by decide) ?_
  refine X_aload_n rfl rfl rfl ?_
  refine X_getA rfl rfl (fun v192 => ?_)
  refine X_iload rfl rfl rfl ?_
  refine X_qld9 (t := 7) rfl rfl (by simp) (fun v197 => ?_)
  refine X_nn (fun v197n e197 => ?_)
  subst e197
  refine X_getI rfl rfl (fun v198 => ?_)
  refine X_ast rfl rfl (fun h201 => ?_)
  refine X_kS_U (k1 := kb65 + 1) (n1 := nb65 + 4) (M' := M_L_writeAll) (nA := 4) (As := [.ref l0, .ref l1, .ref (g_aK G 1), .ref h148.1]) (st := []) rfl rfl (by decide +kernel) rfl rfl rfl (by show kb65 + 1 + 0 = kb65 + 1; omega) (by show nb65 + 4 + 0 = nb65 + 4; omega) (X_ble (by show kb65 + 1 ≤ 450; omega)) (X_ble (by show nb65 + 4 ≤ 3606; omega)) (fun _ e => ct_L_writeAll  e) (fun h202 => ?_)
  refine X_aload_n rfl rfl rfl ?_
  refine X_aload_n rfl rfl rfl ?_
  refine X_ldcG (i := 22) (tx := ";") rfl rfl (by decide +kernel) ?_
  refine X_kS_U (k1 := kb65 + 1) (n1 := nb65 + 4) (M' := M_L_write) (nA := 3) (As := [.ref l0, .ref l1, .ref (g_aK G 22)]) (st := []) rfl rfl (by decide +kernel) rfl rfl rfl (by show kb65 + 1 + 0 = kb65 + 1; omega) (by show nb65 + 4 + 0 = nb65 + 4; omega) (X_ble (by show kb65 + 1 ≤ 450; omega)) (X_ble (by show nb65 + 4 ≤ 3606; omega)) (fun _ e => ct_L_write  e) (fun h209 => ?_)
  exact X_sub (g_sub_s (g_sub_s (g_sub_s (g_sub_s (g_sub_s (g_sub_n (g_sub_n (g_sub_n (g_sub_n (g_sub_n (g_sub_n (g_sub_n g_sub_0)))))))))))) (b_L_randomLine_b212 hl hkb65 hnb65 hK65 _ _ _ _ _ _)
set_option maxRecDepth 100000 in
theorem b_L_randomLine_b301 {l : Launch} {G : gG} (hl : l.stackTraces = false) {kb225 nb225 : Nat} {K225 : gH → Nat → Nat → Nat → Nat → Int32 → Option (Option Nat × gH)} {K262 : gH → Nat → Nat → Nat → Nat → Int32 → Int32 → Int32 → Int32 → Nat → Int32 → Int32 → Option (Option Nat × gH)} (hkb225 : kb225 + 3 ≤ 31) (hnb225 : nb225 + 26 ≤ 218) (hK225 : ∀ (h : gH) (l0 : Nat) (l1 : Nat) (l2 : Nat) (l3 : Nat) (l4 : Int32), GX l G M_L_randomLine (g_phi G g_wQ (m_R M_L_randomLine).cells (m_R M_L_randomLine).slots) (kb225 + 3) (nb225 + 26) 225 [some (.ref l0), some (.ref l1), some (.ref l2), some (.ref l3), some (.int l4), none, none, none, none, none, none, none] [] h (K225 h l0 l1 l2 l3 l4)) (hK262 : ∀ (h : gH) (l0 : Nat) (l1 : Nat) (l2 : Nat) (l3 : Nat) (l4 : Int32) (l5 : Int32) (l6 : Int32) (l7 : Int32) (l8 : Nat) (l9 : Int32) (l10 : Int32), GX l G M_L_randomLine (g_phi G g_wQ (m_R M_L_randomLine).cells (m_R M_L_randomLine).slots) kb225 nb225 262 [some (.ref l0), some (.ref l1), some (.ref l2), some (.ref l3), some (.int l4), some (.int l5), some (.int l6), some (.int l7), some (.ref l8), some (.int l9), some (.int l10), none] [] h (K262 h l0 l1 l2 l3 l4 l5 l6 l7 l8 l9 l10)) (h : gH) (l0 : Nat) (l1 : Nat) (l2 : Nat) (l3 : Nat) (l4 : Int32) (l5 : Int32) (l6 : Int32) (l8 : Nat) (l9 : Int32) (l10 : Int32) (s0 : Int32) (s1 : Int32) : GX l G M_L_randomLine (g_phi G g_wQ (m_R M_L_randomLine).cells (m_R M_L_randomLine).slots) kb225 nb225 301 [some (.ref l0), some (.ref l1), some (.ref l2), some (.ref l3), some (.int l4), some (.int l5), some (.int l6), none, some (.ref l8), some (.int l9), some (.int l10), none] [.int s0, .int s1] h (f_L_randomLine_b301 G K225 K262 h l0 l1 l2 l3 l4 l5 l6 l8 l9 l10 s0 s1) := by
  unfold f_L_randomLine_b301
  refine X_iand rfl rfl ?_
  refine X_istore rfl rfl rfl rfl ?_
  refine X_iinc (v := l10 + 1) rfl rfl rfl (congrArg (fun z => l10 + z) (by decide : Int32.ofInt 1 = 1)) rfl ?_
  refine X_goto rfl rfl ?_
  exact X_sub (g_sub_s (g_sub_s (g_sub_s (g_sub_s (g_sub_s (g_sub_s (g_sub_s (g_sub_s (g_sub_s (g_sub_s (g_sub_s (g_sub_n g_sub_0)))))))))))) (hK262 _ _ _ _ _ _ _ _ _ _ _ _)
set_option maxRecDepth 100000 in
theorem b_L_randomLine_b296 {l : Launch} {G : gG} (hl : l.stackTraces = false) {kb225 nb225 : Nat} {K225 : gH → Nat → Nat → Nat → Nat → Int32 → Option (Option Nat × gH)} {K262 : gH → Nat → Nat → Nat → Nat → Int32 → Int32 → Int32 → Int32 → Nat → Int32 → Int32 → Option (Option Nat × gH)} (hkb225 : kb225 + 3 ≤ 31) (hnb225 : nb225 + 26 ≤ 218) (hK225 : ∀ (h : gH) (l0 : Nat) (l1 : Nat) (l2 : Nat) (l3 : Nat) (l4 : Int32), GX l G M_L_randomLine (g_phi G g_wQ (m_R M_L_randomLine).cells (m_R M_L_randomLine).slots) (kb225 + 3) (nb225 + 26) 225 [some (.ref l0), some (.ref l1), some (.ref l2), some (.ref l3), some (.int l4), none, none, none, none, none, none, none] [] h (K225 h l0 l1 l2 l3 l4)) (hK262 : ∀ (h : gH) (l0 : Nat) (l1 : Nat) (l2 : Nat) (l3 : Nat) (l4 : Int32) (l5 : Int32) (l6 : Int32) (l7 : Int32) (l8 : Nat) (l9 : Int32) (l10 : Int32), GX l G M_L_randomLine (g_phi G g_wQ (m_R M_L_randomLine).cells (m_R M_L_randomLine).slots) kb225 nb225 262 [some (.ref l0), some (.ref l1), some (.ref l2), some (.ref l3), some (.int l4), some (.int l5), some (.int l6), some (.int l7), some (.ref l8), some (.int l9), some (.int l10), none] [] h (K262 h l0 l1 l2 l3 l4 l5 l6 l7 l8 l9 l10)) (h : gH) (l0 : Nat) (l1 : Nat) (l2 : Nat) (l3 : Nat) (l4 : Int32) (l5 : Int32) (l6 : Int32) (l8 : Nat) (l9 : Int32) (l10 : Int32) (s0 : Int32) : GX l G M_L_randomLine (g_phi G g_wQ (m_R M_L_randomLine).cells (m_R M_L_randomLine).slots) kb225 nb225 296 [some (.ref l0), some (.ref l1), some (.ref l2), some (.ref l3), some (.int l4), some (.int l5), some (.int l6), none, some (.ref l8), some (.int l9), some (.int l10), none] [.int s0] h (f_L_randomLine_b296 G K225 K262 h l0 l1 l2 l3 l4 l5 l6 l8 l9 l10 s0) := by
  unfold f_L_randomLine_b296
  refine X_iconst (v := 1) rfl rfl (by decide) ?_
  refine X_goto rfl rfl ?_
  exact X_sub (g_sub_s (g_sub_s (g_sub_s (g_sub_s (g_sub_s (g_sub_s (g_sub_s (g_sub_n (g_sub_s (g_sub_s (g_sub_s (g_sub_n g_sub_0)))))))))))) (b_L_randomLine_b301 hl hkb225 hnb225 hK225 hK262 _ _ _ _ _ _ _ _ _ _ _ _ _)
set_option maxRecDepth 100000 in
theorem b_L_randomLine_b387 {l : Launch} {G : gG} (hl : l.stackTraces = false) {kb225 nb225 : Nat} {K225 : gH → Nat → Nat → Nat → Nat → Int32 → Option (Option Nat × gH)} (hkb225 : kb225 + 3 ≤ 31) (hnb225 : nb225 + 26 ≤ 218) (hK225 : ∀ (h : gH) (l0 : Nat) (l1 : Nat) (l2 : Nat) (l3 : Nat) (l4 : Int32), GX l G M_L_randomLine (g_phi G g_wQ (m_R M_L_randomLine).cells (m_R M_L_randomLine).slots) (kb225 + 3) (nb225 + 26) 225 [some (.ref l0), some (.ref l1), some (.ref l2), some (.ref l3), some (.int l4), none, none, none, none, none, none, none] [] h (K225 h l0 l1 l2 l3 l4)) (h : gH) (l0 : Nat) (l1 : Nat) (l2 : Nat) (l3 : Nat) (l4 : Int32) : GX l G M_L_randomLine (g_phi G g_wQ (m_R M_L_randomLine).cells (m_R M_L_randomLine).slots) (kb225 + 3) (nb225 + 26) 387 [some (.ref l0), some (.ref l1), some (.ref l2), some (.ref l3), some (.int l4), none, none, none, none, none, none, none] [] h (f_L_randomLine_b387 G K225 h l0 l1 l2 l3 l4) := by
  unfold f_L_randomLine_b387
  refine X_iinc (v := l4 + (-1)) rfl rfl rfl (congrArg (fun z => l4 + z) (by decide : Int32.ofInt (-1) = (-1))) rfl ?_
  refine X_goto rfl rfl ?_
  refine X_wid (k' := kb225 + 3) (n' := nb225 + 26) (by omega) (by omega) ?_
  exact X_sub (g_sub_s (g_sub_s (g_sub_s (g_sub_s (g_sub_s (g_sub_n (g_sub_n (g_sub_n (g_sub_n (g_sub_n (g_sub_n (g_sub_n g_sub_0)))))))))))) (hK225 _ _ _ _ _ _)
set_option maxRecDepth 100000 in
theorem b_L_randomLine_b262 {l : Launch} {G : gG} (hl : l.stackTraces = false) {kb225 nb225 : Nat} {K225 : gH → Nat → Nat → Nat → Nat → Int32 → Option (Option Nat × gH)} (hkb225 : kb225 + 3 ≤ 31) (hnb225 : nb225 + 26 ≤ 218) (hK225 : ∀ (h : gH) (l0 : Nat) (l1 : Nat) (l2 : Nat) (l3 : Nat) (l4 : Int32), GX l G M_L_randomLine (g_phi G g_wQ (m_R M_L_randomLine).cells (m_R M_L_randomLine).slots) (kb225 + 3) (nb225 + 26) 225 [some (.ref l0), some (.ref l1), some (.ref l2), some (.ref l3), some (.int l4), none, none, none, none, none, none, none] [] h (K225 h l0 l1 l2 l3 l4)) : ∀ (n : Nat) (h : gH) (l0 : Nat) (l1 : Nat) (l2 : Nat) (l3 : Nat) (l4 : Int32) (l5 : Int32) (l6 : Int32) (l7 : Int32) (l8 : Nat) (l9 : Int32) (l10 : Int32), GX l G M_L_randomLine (g_phi G g_wQ (m_R M_L_randomLine).cells (m_R M_L_randomLine).slots) kb225 nb225 262 [some (.ref l0), some (.ref l1), some (.ref l2), some (.ref l3), some (.int l4), some (.int l5), some (.int l6), some (.int l7), some (.ref l8), some (.int l9), some (.int l10), none] [] h (f_L_randomLine_b262 G K225 n h l0 l1 l2 l3 l4 l5 l6 l7 l8 l9 l10) := by
  intro n
  induction n with
  | zero => intros; exact X_none
  | succ n ih =>
    intro h l0 l1 l2 l3 l4 l5 l6 l7 l8 l9 l10
    rw [f_L_randomLine_b262]
    refine X_iload rfl rfl rfl ?_
    refine X_iload rfl rfl rfl ?_
    refine X_bicmp_ge rfl rfl (fun _ => ?_) (fun _ => ?_)
    · refine X_aload rfl rfl rfl ?_
      refine X_iload rfl rfl rfl ?_
      refine X_qld (t := 3) rfl rfl (by simp) (fun v273 => ?_)
      refine X_nn (fun v273n e273 => ?_)
      subst e273
      refine X_astore rfl rfl rfl rfl ?_
      refine X_iload rfl rfl rfl ?_
      refine X_aload rfl rfl rfl ?_
      refine X_iconst (v := 0) rfl rfl (by decide) ?_
      refine X_ald rfl rfl (fun v281 => ?_)
      refine X_iload rfl rfl rfl ?_
      refine X_bicmp_ne rfl rfl (fun _ => ?_) (fun _ => ?_)
      · refine X_aload rfl rfl rfl ?_
        refine X_iconst (v := 1) rfl rfl (by decide) ?_
        refine X_ald rfl rfl (fun v290 => ?_)
        refine X_iload rfl rfl rfl ?_
        refine X_bicmp_eq rfl rfl (fun _ => ?_) (fun _ => ?_)
        · refine X_iconst (v := 0) rfl rfl (by decide) ?_
          exact X_sub (g_sub_s (g_sub_s (g_sub_s (g_sub_s (g_sub_s (g_sub_s (g_sub_s (g_sub_n (g_sub_s (g_sub_s (g_sub_s (g_sub_n g_sub_0)))))))))))) (b_L_randomLine_b301 hl hkb225 hnb225 hK225 ih _ _ _ _ _ _ _ _ _ _ _ _ _)
        · exact X_sub (g_sub_s (g_sub_s (g_sub_s (g_sub_s (g_sub_s (g_sub_s (g_sub_s (g_sub_n (g_sub_s (g_sub_s (g_sub_s (g_sub_n g_sub_0)))))))))))) (b_L_randomLine_b296 hl hkb225 hnb225 hK225 ih _ _ _ _ _ _ _ _ _ _ _ _)
      · exact X_sub (g_sub_s (g_sub_s (g_sub_s (g_sub_s (g_sub_s (g_sub_s (g_sub_s (g_sub_n (g_sub_s (g_sub_s (g_sub_s (g_sub_n g_sub_0)))))))))))) (b_L_randomLine_b296 hl hkb225 hnb225 hK225 ih _ _ _ _ _ _ _ _ _ _ _ _)
    · refine X_iload rfl rfl rfl ?_
      refine X_bif_ne rfl rfl (fun _ => ?_) (fun _ => ?_)
      · refine X_goto rfl rfl ?_
        refine X_wid (k' := kb225 + 3) (n' := nb225 + 26) (by omega) (by omega) ?_
        exact X_sub (g_sub_s (g_sub_s (g_sub_s (g_sub_s (g_sub_s (g_sub_n (g_sub_n (g_sub_n (g_sub_n (g_sub_n (g_sub_n (g_sub_n g_sub_0)))))))))))) (b_L_randomLine_b387 hl hkb225 hnb225 hK225 _ _ _ _ _ _)
      · refine X_aload_n rfl rfl rfl ?_
        refine X_bipush (v := 26) rfl rfl (by decide) ?_
        refine X_kV_I (k1 := kb225) (n1 := nb225) (M' := M_X11_below) (nA := 1) (As := [.int 26]) (st := []) (b := l2) (ci := 11) rfl rfl (by decide +kernel) rfl rfl rfl rfl (by show kb225 + 0 = kb225; omega) (by show nb225 + 0 = nb225; omega) (X_ble (by show kb225 ≤ 450; omega)) (X_ble (by show nb225 ≤ 3606; omega)) (fun _ _ e => ct_X11_below  e) (fun y321 => ?_)
        refine X_istore rfl rfl rfl rfl ?_
        refine X_aload_n rfl rfl rfl ?_
        refine X_aload_n rfl rfl rfl ?_
        refine X_getA rfl rfl (fun v328 => ?_)
        refine X_iconst (v := 3) rfl rfl (by decide) ?_
        refine X_nwI (k1 := kb225 + 1) (n1 := nb225 + 3) (B := 3) rfl rfl (by show kb225 + 1 = kb225 + 1; omega) (by show nb225 + 3 = nb225 + 3; omega) rfl (X_ble (by show kb225 + 1 ≤ 450; omega)) (X_ble (by show nb225 + 3 ≤ 3606; omega)) (fun h332 => ?_)
        refine X_dup rfl rfl rfl ?_
        refine X_iconst (v := 0) rfl rfl (by decide) ?_
        refine X_iload rfl rfl rfl ?_
        refine X_ast rfl rfl (fun h338 => ?_)
        refine X_dup rfl rfl rfl ?_
        refine X_iconst (v := 1) rfl rfl (by decide) ?_
        refine X_iload rfl rfl rfl ?_
        refine X_ast rfl rfl (fun h343 => ?_)
        refine X_dup rfl rfl rfl ?_
        refine X_iconst (v := 2) rfl rfl (by decide) ?_
        refine X_iload rfl rfl rfl ?_
        refine X_ast rfl rfl (fun h348 => ?_)
        refine X_kS_A (k1 := kb225 + 2) (n1 := nb225 + 23) (M' := M_L_with) (nA := 2) (As := [.ref v328, .ref y321.2.1]) (st := [.ref l3]) rfl rfl (by decide +kernel) rfl rfl rfl (by show kb225 + 1 + 1 = kb225 + 2; omega) (by show nb225 + 3 + 20 = nb225 + 23; omega) (X_ble (by show kb225 + 2 ≤ 450; omega)) (X_ble (by show nb225 + 23 ≤ 3606; omega)) (fun _ _ e => ct_L_with  e) (fun y349 => ?_)
        refine X_put rfl rfl rfl rfl rfl (fun h352 => ?_)
        refine X_aload_n rfl rfl rfl ?_
        refine X_aload_n rfl rfl rfl ?_
        refine X_ldcG (i := 2) (tx := "keeper") rfl rfl (by decide +kernel) ?_
        refine X_iconst (v := 3) rfl rfl (by decide) ?_
        refine X_nwI (k1 := kb225 + 3) (n1 := nb225 + 26) (B := 3) rfl rfl (by show kb225 + 2 + 1 = kb225 + 3; omega) (by show nb225 + 23 + 3 = nb225 + 26; omega) rfl (X_ble (by show kb225 + 3 ≤ 450; omega)) (X_ble (by show nb225 + 26 ≤ 3606; omega)) (fun h360 => ?_)
        refine X_dup rfl rfl rfl ?_
        refine X_iconst (v := 0) rfl rfl (by decide) ?_
        refine X_iload rfl rfl rfl ?_
        refine X_ast rfl rfl (fun h366 => ?_)
        refine X_dup rfl rfl rfl ?_
        refine X_iconst (v := 1) rfl rfl (by decide) ?_
        refine X_iload rfl rfl rfl ?_
        refine X_ast rfl rfl (fun h371 => ?_)
        refine X_dup rfl rfl rfl ?_
        refine X_iconst (v := 2) rfl rfl (by decide) ?_
        refine X_iload rfl rfl rfl ?_
        refine X_ast rfl rfl (fun h376 => ?_)
        refine X_kS_U (k1 := kb225 + 3) (n1 := nb225 + 26) (M' := M_L_writeAll) (nA := 4) (As := [.ref l0, .ref l1, .ref (g_aK G 2), .ref h352.1]) (st := []) rfl rfl (by decide +kernel) rfl rfl rfl (by show kb225 + 3 + 0 = kb225 + 3; omega) (by show nb225 + 26 + 0 = nb225 + 26; omega) (X_ble (by show kb225 + 3 ≤ 450; omega)) (X_ble (by show nb225 + 26 ≤ 3606; omega)) (fun _ e => ct_L_writeAll  e) (fun h377 => ?_)
        refine X_aload_n rfl rfl rfl ?_
        refine X_aload_n rfl rfl rfl ?_
        refine X_ldcG (i := 22) (tx := ";") rfl rfl (by decide +kernel) ?_
        refine X_kS_U (k1 := kb225 + 3) (n1 := nb225 + 26) (M' := M_L_write) (nA := 3) (As := [.ref l0, .ref l1, .ref (g_aK G 22)]) (st := []) rfl rfl (by decide +kernel) rfl rfl rfl (by show kb225 + 3 + 0 = kb225 + 3; omega) (by show nb225 + 26 + 0 = nb225 + 26; omega) (X_ble (by show kb225 + 3 ≤ 450; omega)) (X_ble (by show nb225 + 26 ≤ 3606; omega)) (fun _ e => ct_L_write  e) (fun h384 => ?_)
        exact X_sub (g_sub_s (g_sub_s (g_sub_s (g_sub_s (g_sub_s (g_sub_n (g_sub_n (g_sub_n (g_sub_n (g_sub_n (g_sub_n (g_sub_n g_sub_0)))))))))))) (b_L_randomLine_b387 hl hkb225 hnb225 hK225 _ _ _ _ _ _)
set_option maxRecDepth 100000 in
theorem b_L_randomLine_b509 {l : Launch} {G : gG} (hl : l.stackTraces = false) : ∀ (n kb509 nb509 : Nat), kb509 + n * 80 ≤ 449 → nb509 + n * 645 ≤ 3599 → ∀ (h : gH) (l0 : Nat) (l1 : Nat) (l2 : Nat) (l3 : Nat) (l4 : Int32) (l5 : Int32), GX l G M_L_randomLine (g_phi G g_wQ (m_R M_L_randomLine).cells (m_R M_L_randomLine).slots) kb509 nb509 509 [some (.ref l0), some (.ref l1), some (.ref l2), some (.ref l3), some (.int l4), some (.int l5), none, none, none, none, none, none] [] h (f_L_randomLine_b509 G n h l0 l1 l2 l3 l4 l5) := by
  intro n
  induction n with
  | zero => intros; exact X_none
  | succ n ih =>
    intro kb509 nb509 hk0 hn0 h l0 l1 l2 l3 l4 l5
    have hkb509 : kb509 + 80 ≤ 449 := by omega
    have hnb509 : nb509 + 645 ≤ 3599 := by omega
    rw [f_L_randomLine_b509]
    refine X_iload rfl rfl rfl ?_
    refine X_iload rfl rfl rfl ?_
    refine X_bicmp_ge rfl rfl (fun _ => ?_) (fun _ => ?_)
    · refine X_aload_n rfl rfl rfl ?_
      refine X_iconst (v := 2) rfl rfl (by decide) ?_
      refine X_kV_I (k1 := kb509) (n1 := nb509) (M' := M_X11_below) (nA := 1) (As := [.int 2]) (st := []) (b := l2) (ci := 11) rfl rfl (by decide +kernel) rfl rfl rfl rfl (by show kb509 + 0 = kb509; omega) (by show nb509 + 0 = nb509; omega) (X_ble (by show kb509 ≤ 450; omega)) (X_ble (by show nb509 ≤ 3606; omega)) (fun _ _ e => ct_X11_below  e) (fun y518 => ?_)
      refine X_istore rfl rfl rfl rfl ?_
      refine X_aload_n rfl rfl rfl ?_
      refine X_bipush (v := 10) rfl rfl (by decide) ?_
      refine X_kV_I (k1 := kb509) (n1 := nb509) (M' := M_X11_below) (nA := 1) (As := [.int 10]) (st := []) (b := l2) (ci := 11) rfl rfl (by decide +kernel) rfl rfl rfl rfl (by show kb509 + 0 = kb509; omega) (by show nb509 + 0 = nb509; omega) (X_ble (by show kb509 ≤ 450; omega)) (X_ble (by show nb509 ≤ 3606; omega)) (fun _ _ e => ct_X11_below  e) (fun y526 => ?_)
      refine X_istore rfl rfl rfl rfl ?_
      refine X_aload_n rfl rfl rfl ?_
      refine X_kS_A (k1 := kb509 + 52) (n1 := nb509 + 520) (M' := M_L_randomWord) (nA := 1) (As := [.ref l2]) (st := []) rfl rfl (by decide +kernel) rfl rfl rfl (by show kb509 + 52 = kb509 + 52; omega) (by show nb509 + 520 = nb509 + 520; omega) (X_ble (by show kb509 + 52 ≤ 450; omega)) (X_ble (by show nb509 + 520 ≤ 3606; omega)) (fun _ _ e => ct_L_randomWord  e) (fun y532 => ?_)
      refine X_astore rfl rfl rfl rfl ?_
      refine X_aload_n rfl rfl rfl ?_
      refine X_iload rfl rfl rfl ?_
      refine X_iload rfl rfl rfl ?_
      refine X_aload rfl rfl rfl ?_
      refine X_kV_U (k1 := kb509 + 75) (n1 := nb509 + 603) (M' := M_X10_adds) (nA := 3) (As := [.int y518.1, .int y526.1, .ref y532.1]) (st := []) (b := l3) (ci := 10) rfl rfl (by decide +kernel) rfl rfl rfl rfl (by show kb509 + 52 + 23 = kb509 + 75; omega) (by show nb509 + 520 + 83 = nb509 + 603; omega) (X_ble (by show kb509 + 75 ≤ 450; omega)) (X_ble (by show nb509 + 603 ≤ 3606; omega)) (fun _ e => ct_X10_adds  e) (fun h544 => ?_)
      refine X_aload_n rfl rfl rfl ?_
      refine X_aload_n rfl rfl rfl ?_
      refine X_ldcG (i := 4) (tx := "message") rfl rfl (by decide +kernel) ?_
      refine X_iconst (v := 2) rfl rfl (by decide) ?_
      refine X_nwI (k1 := kb509 + 76) (n1 := nb509 + 605) (B := 2) rfl rfl (by show kb509 + 75 + 1 = kb509 + 76; omega) (by show nb509 + 603 + 2 = nb509 + 605; omega) rfl (X_ble (by show kb509 + 76 ≤ 450; omega)) (X_ble (by show nb509 + 605 ≤ 3606; omega)) (fun h552 => ?_)
      refine X_dup rfl rfl rfl ?_
      refine X_iconst (v := 0) rfl rfl (by decide) ?_
      refine X_iload rfl rfl rfl ?_
      refine X_ast rfl rfl (fun h558 => ?_)
      refine X_dup rfl rfl rfl ?_
      refine X_iconst (v := 1) rfl rfl (by decide) ?_
      refine X_iload rfl rfl rfl ?_
      refine X_ast rfl rfl (fun h563 => ?_)
      refine X_kS_U (k1 := kb509 + 76) (n1 := nb509 + 605) (M' := M_L_writeAll) (nA := 4) (As := [.ref l0, .ref l1, .ref (g_aK G 4), .ref h544.1]) (st := []) rfl rfl (by decide +kernel) rfl rfl rfl (by show kb509 + 76 + 0 = kb509 + 76; omega) (by show nb509 + 605 + 0 = nb509 + 605; omega) (X_ble (by show kb509 + 76 ≤ 450; omega)) (X_ble (by show nb509 + 605 ≤ 3606; omega)) (fun _ e => ct_L_writeAll  e) (fun h564 => ?_)
      refine X_aload_n rfl rfl rfl ?_
      refine X_aload_n rfl rfl rfl ?_
      refine X_newO (k1 := kb509 + 77) (n1 := nb509 + 609) rfl rfl (by show kb509 + 76 + 1 = kb509 + 77; omega) (by show nb509 + 605 + 4 = nb509 + 609; omega) (X_ble (by show kb509 + 77 ≤ 450; omega)) (X_ble (by show nb509 + 609 ≤ 3606; omega)) (fun h569 => ?_)
      refine X_dup rfl rfl rfl ?_
      refine X_kI_U (k1 := kb509 + 78) (n1 := nb509 + 625) (M' := M_T4_init_da8c8) (nA := 0) (As := []) (st := [.ref h564.1, .ref l1, .ref l0]) (b := h564.1) rfl rfl (by decide +kernel) rfl rfl rfl (by show kb509 + 77 + 1 = kb509 + 78; omega) (by show nb509 + 609 + 16 = nb509 + 625; omega) (X_ble (by show kb509 + 78 ≤ 450; omega)) (X_ble (by show nb509 + 625 ≤ 3606; omega)) (fun _ e => ct_T4_init_da8c8  e) (fun h573 => ?_)
      refine X_ldcG (i := 21) (tx := " ") rfl rfl (by decide +kernel) ?_
      refine X_kV_A (k1 := kb509 + 78) (n1 := nb509 + 625) (M' := M_T4_append_15ec4) (nA := 1) (As := [.ref (g_aK G 21)]) (st := [.ref l1, .ref l0]) (b := h564.1) (ci := 13) rfl rfl (by decide +kernel) rfl rfl rfl rfl (by show kb509 + 78 + 0 = kb509 + 78; omega) (by show nb509 + 625 + 0 = nb509 + 625; omega) (X_ble (by show kb509 + 78 ≤ 450; omega)) (X_ble (by show nb509 + 625 ≤ 3606; omega)) (fun _ _ e => ct_T4_append_15ec4  e) (fun y578 => ?_)
      refine X_aload rfl rfl rfl ?_
      refine X_kV_A (k1 := kb509 + 78) (n1 := nb509 + 625) (M' := M_T4_append_15ec4) (nA := 1) (As := [.ref y532.1]) (st := [.ref l1, .ref l0]) (b := y578.1) (ci := 13) rfl rfl (by decide +kernel) rfl rfl rfl rfl (by show kb509 + 78 + 0 = kb509 + 78; omega) (by show nb509 + 625 + 0 = nb509 + 625; omega) (X_ble (by show kb509 + 78 ≤ 450; omega)) (X_ble (by show nb509 + 625 ≤ 3606; omega)) (fun _ _ e => ct_T4_append_15ec4  e) (fun y583 => ?_)
      refine X_ldcG (i := 22) (tx := ";") rfl rfl (by decide +kernel) ?_
      refine X_kV_A (k1 := kb509 + 78) (n1 := nb509 + 625) (M' := M_T4_append_15ec4) (nA := 1) (As := [.ref (g_aK G 22)]) (st := [.ref l1, .ref l0]) (b := y583.1) (ci := 13) rfl rfl (by decide +kernel) rfl rfl rfl rfl (by show kb509 + 78 + 0 = kb509 + 78; omega) (by show nb509 + 625 + 0 = nb509 + 625; omega) (X_ble (by show kb509 + 78 ≤ 450; omega)) (X_ble (by show nb509 + 625 ≤ 3606; omega)) (fun _ _ e => ct_T4_append_15ec4  e) (fun y588 => ?_)
      refine X_kV_A (k1 := kb509 + 80) (n1 := nb509 + 645) (M' := M_T4_toString_0e30d) (nA := 0) (As := []) (st := [.ref l1, .ref l0]) (b := y588.1) (ci := 13) rfl rfl (by decide +kernel) rfl rfl rfl rfl (by show kb509 + 78 + 2 = kb509 + 80; omega) (by show nb509 + 625 + 20 = nb509 + 645; omega) (X_ble (by show kb509 + 80 ≤ 450; omega)) (X_ble (by show nb509 + 645 ≤ 3606; omega)) (fun _ _ e => ct_T4_toString_0e30d  e) (fun y591 => ?_)
      refine X_kS_U (k1 := kb509 + 80) (n1 := nb509 + 645) (M' := M_L_write) (nA := 3) (As := [.ref l0, .ref l1, .ref y591.1]) (st := []) rfl rfl (by decide +kernel) rfl rfl rfl (by show kb509 + 80 + 0 = kb509 + 80; omega) (by show nb509 + 645 + 0 = nb509 + 645; omega) (X_ble (by show kb509 + 80 ≤ 450; omega)) (X_ble (by show nb509 + 645 ≤ 3606; omega)) (fun _ e => ct_L_write  e) (fun h594 => ?_)
      refine X_iinc (v := l5 + 1) rfl rfl rfl (congrArg (fun z => l5 + z) (by decide : Int32.ofInt 1 = 1)) rfl ?_
      refine X_goto rfl rfl ?_
      refine X_wid (k' := kb509 + 80) (n' := nb509 + 645) (by omega) (by omega) ?_
      exact X_sub (g_sub_s (g_sub_s (g_sub_s (g_sub_s (g_sub_s (g_sub_s (g_sub_n (g_sub_n (g_sub_n (g_sub_n (g_sub_n (g_sub_n g_sub_0)))))))))))) (ih _ _ (by omega) (by omega) _ _ _ _ _ _ _)
    · refine X_aload_n rfl rfl rfl ?_
      refine X_aload_n rfl rfl rfl ?_
      refine X_kS_I (k1 := kb509 + 1) (n1 := nb509 + 7) (M' := M_L_loadText) (nA := 2) (As := [.ref l0, .ref l1]) (st := []) rfl rfl (by decide +kernel) rfl rfl rfl (by show kb509 + 1 = kb509 + 1; omega) (by show nb509 + 7 = nb509 + 7; omega) (X_ble (by show kb509 + 1 ≤ 450; omega)) (X_ble (by show nb509 + 7 ≤ 3606; omega)) (fun _ _ e => ct_L_loadText hl  e) (fun y605 => ?_)
      refine X_iload rfl rfl rfl ?_
      refine X_bicmp_ne rfl rfl (fun _ => ?_) (fun _ => ?_)
      · refine X_aload_n rfl rfl rfl ?_
        refine X_goto rfl rfl ?_
        exact X_aret (v := some l3) rfl rfl rfl rfl (X_ble (by show kb509 + 1 ≤ 450; omega)) (X_ble (by show nb509 + 7 ≤ 3606; omega))
      · refine X_null rfl rfl ?_
        refine X_rfl (st' := va_rf none :: []) rfl ?_
        exact X_aret (v := none) rfl rfl rfl rfl (X_ble (by show kb509 + 1 ≤ 450; omega)) (X_ble (by show nb509 + 7 ≤ 3606; omega))
set_option maxRecDepth 100000 in
theorem b_L_randomLine_b400 {l : Launch} {G : gG} (hl : l.stackTraces = false) : ∀ (n kb400 nb400 : Nat), kb400 + n * 3 ≤ 49 → nb400 + n * 26 ≤ 374 → ∀ (h : gH) (l0 : Nat) (l1 : Nat) (l2 : Nat) (l3 : Nat) (l4 : Int32), GX l G M_L_randomLine (g_phi G g_wQ (m_R M_L_randomLine).cells (m_R M_L_randomLine).slots) kb400 nb400 400 [some (.ref l0), some (.ref l1), some (.ref l2), some (.ref l3), some (.int l4), none, none, none, none, none, none, none] [] h (f_L_randomLine_b400 G n h l0 l1 l2 l3 l4) := by
  intro n
  induction n with
  | zero => intros; exact X_none
  | succ n ih =>
    intro kb400 nb400 hk0 hn0 h l0 l1 l2 l3 l4
    have hkb400 : kb400 + 3 ≤ 49 := by omega
    have hnb400 : nb400 + 26 ≤ 374 := by omega
    rw [f_L_randomLine_b400]
    refine X_iload rfl rfl rfl ?_
    refine X_bif_le rfl rfl (fun _ => ?_) (fun _ => ?_)
    · refine X_aload_n rfl rfl rfl ?_
      refine X_bipush (v := 60) rfl rfl (by decide) ?_
      refine X_kV_I (k1 := kb400) (n1 := nb400) (M' := M_X11_below) (nA := 1) (As := [.int 60]) (st := []) (b := l2) (ci := 11) rfl rfl (by decide +kernel) rfl rfl rfl rfl (by show kb400 + 0 = kb400; omega) (by show nb400 + 0 = nb400; omega) (X_ble (by show kb400 ≤ 450; omega)) (X_ble (by show nb400 ≤ 3606; omega)) (fun _ _ e => ct_X11_below  e) (fun y408 => ?_)
      refine X_istore rfl rfl rfl rfl ?_
      refine X_iload rfl rfl rfl ?_
      refine X_aload_n rfl rfl rfl ?_
      refine X_bipush (v := 12) rfl rfl (by decide) ?_
      refine X_kV_I (k1 := kb400) (n1 := nb400) (M' := M_X11_below) (nA := 1) (As := [.int 12]) (st := [.int y408.1]) (b := l2) (ci := 11) rfl rfl (by decide +kernel) rfl rfl rfl rfl (by show kb400 + 0 = kb400; omega) (by show nb400 + 0 = nb400; omega) (X_ble (by show kb400 ≤ 450; omega)) (X_ble (by show nb400 ≤ 3606; omega)) (fun _ _ e => ct_X11_below  e) (fun y418 => ?_)
      refine X_iadd rfl rfl ?_
      refine X_istore rfl rfl rfl rfl ?_
      refine X_aload_n rfl rfl rfl ?_
      refine X_bipush (v := 10) rfl rfl (by decide) ?_
      refine X_kV_I (k1 := kb400) (n1 := nb400) (M' := M_X11_below) (nA := 1) (As := [.int 10]) (st := []) (b := l2) (ci := 11) rfl rfl (by decide +kernel) rfl rfl rfl rfl (by show kb400 + 0 = kb400; omega) (by show nb400 + 0 = nb400; omega) (X_ble (by show kb400 ≤ 450; omega)) (X_ble (by show nb400 ≤ 3606; omega)) (fun _ _ e => ct_X11_below  e) (fun y427 => ?_)
      refine X_istore rfl rfl rfl rfl ?_
      refine X_aload_n rfl rfl rfl ?_
      refine X_aload_n rfl rfl rfl ?_
      refine X_getA rfl rfl (fun v434 => ?_)
      refine X_iconst (v := 3) rfl rfl (by decide) ?_
      refine X_nwI (k1 := kb400 + 1) (n1 := nb400 + 3) (B := 3) rfl rfl (by show kb400 + 1 = kb400 + 1; omega) (by show nb400 + 3 = nb400 + 3; omega) rfl (X_ble (by show kb400 + 1 ≤ 450; omega)) (X_ble (by show nb400 + 3 ≤ 3606; omega)) (fun h438 => ?_)
      refine X_dup rfl rfl rfl ?_
      refine X_iconst (v := 0) rfl rfl (by decide) ?_
      refine X_iload rfl rfl rfl ?_
      refine X_ast rfl rfl (fun h444 => ?_)
      refine X_dup rfl rfl rfl ?_
      refine X_iconst (v := 1) rfl rfl (by decide) ?_
      refine X_iload rfl rfl rfl ?_
      refine X_ast rfl rfl (fun h449 => ?_)
      refine X_dup rfl rfl rfl ?_
      refine X_iconst (v := 2) rfl rfl (by decide) ?_
      refine X_iload rfl rfl rfl ?_
      refine X_ast rfl rfl (fun h454 => ?_)
      refine X_kS_A (k1 := kb400 + 2) (n1 := nb400 + 23) (M' := M_L_with) (nA := 2) (As := [.ref v434, .ref y427.2.1]) (st := [.ref l3]) rfl rfl (by decide +kernel) rfl rfl rfl (by show kb400 + 1 + 1 = kb400 + 2; omega) (by show nb400 + 3 + 20 = nb400 + 23; omega) (X_ble (by show kb400 + 2 ≤ 450; omega)) (X_ble (by show nb400 + 23 ≤ 3606; omega)) (fun _ _ e => ct_L_with  e) (fun y455 => ?_)
      refine X_put rfl rfl rfl rfl rfl (fun h458 => ?_)
      refine X_aload_n rfl rfl rfl ?_
      refine X_aload_n rfl rfl rfl ?_
      refine X_ldcG (i := 3) (tx := "mist") rfl rfl (by decide +kernel) ?_
      refine X_iconst (v := 3) rfl rfl (by decide) ?_
      refine X_nwI (k1 := kb400 + 3) (n1 := nb400 + 26) (B := 3) rfl rfl (by show kb400 + 2 + 1 = kb400 + 3; omega) (by show nb400 + 23 + 3 = nb400 + 26; omega) rfl (X_ble (by show kb400 + 3 ≤ 450; omega)) (X_ble (by show nb400 + 26 ≤ 3606; omega)) (fun h466 => ?_)
      refine X_dup rfl rfl rfl ?_
      refine X_iconst (v := 0) rfl rfl (by decide) ?_
      refine X_iload rfl rfl rfl ?_
      refine X_ast rfl rfl (fun h472 => ?_)
      refine X_dup rfl rfl rfl ?_
      refine X_iconst (v := 1) rfl rfl (by decide) ?_
      refine X_iload rfl rfl rfl ?_
      refine X_ast rfl rfl (fun h477 => ?_)
      refine X_dup rfl rfl rfl ?_
      refine X_iconst (v := 2) rfl rfl (by decide) ?_
      refine X_iload rfl rfl rfl ?_
      refine X_ast rfl rfl (fun h482 => ?_)
      refine X_kS_U (k1 := kb400 + 3) (n1 := nb400 + 26) (M' := M_L_writeAll) (nA := 4) (As := [.ref l0, .ref l1, .ref (g_aK G 3), .ref h458.1]) (st := []) rfl rfl (by decide +kernel) rfl rfl rfl (by show kb400 + 3 + 0 = kb400 + 3; omega) (by show nb400 + 26 + 0 = nb400 + 26; omega) (X_ble (by show kb400 + 3 ≤ 450; omega)) (X_ble (by show nb400 + 26 ≤ 3606; omega)) (fun _ e => ct_L_writeAll  e) (fun h483 => ?_)
      refine X_aload_n rfl rfl rfl ?_
      refine X_aload_n rfl rfl rfl ?_
      refine X_ldcG (i := 22) (tx := ";") rfl rfl (by decide +kernel) ?_
      refine X_kS_U (k1 := kb400 + 3) (n1 := nb400 + 26) (M' := M_L_write) (nA := 3) (As := [.ref l0, .ref l1, .ref (g_aK G 22)]) (st := []) rfl rfl (by decide +kernel) rfl rfl rfl (by show kb400 + 3 + 0 = kb400 + 3; omega) (by show nb400 + 26 + 0 = nb400 + 26; omega) (X_ble (by show kb400 + 3 ≤ 450; omega)) (X_ble (by show nb400 + 26 ≤ 3606; omega)) (fun _ e => ct_L_write  e) (fun h490 => ?_)
      refine X_iinc (v := l4 + (-1)) rfl rfl rfl (congrArg (fun z => l4 + z) (by decide : Int32.ofInt (-1) = (-1))) rfl ?_
      refine X_goto rfl rfl ?_
      refine X_wid (k' := kb400 + 3) (n' := nb400 + 26) (by omega) (by omega) ?_
      exact X_sub (g_sub_s (g_sub_s (g_sub_s (g_sub_s (g_sub_s (g_sub_n (g_sub_n (g_sub_n (g_sub_n (g_sub_n (g_sub_n (g_sub_n g_sub_0)))))))))))) (ih _ _ (by omega) (by omega) _ _ _ _ _ _)
    · refine X_aload_n rfl rfl rfl ?_
      refine X_iconst (v := 4) rfl rfl (by decide) ?_
      refine X_kV_I (k1 := kb400) (n1 := nb400) (M' := M_X11_below) (nA := 1) (As := [.int 4]) (st := []) (b := l2) (ci := 11) rfl rfl (by decide +kernel) rfl rfl rfl rfl (by show kb400 + 0 = kb400; omega) (by show nb400 + 0 = nb400; omega) (X_ble (by show kb400 ≤ 450; omega)) (X_ble (by show nb400 ≤ 3606; omega)) (fun _ _ e => ct_X11_below  e) (fun y501 => ?_)
      refine X_istore rfl rfl rfl rfl ?_
      refine X_iconst (v := 0) rfl rfl (by decide) ?_
      refine X_istore rfl rfl rfl rfl ?_
      refine X_wid (k' := 49) (n' := 374) (by omega) (by omega) ?_
      exact X_sub (g_sub_s (g_sub_s (g_sub_s (g_sub_s (g_sub_s (g_sub_s (g_sub_n (g_sub_n (g_sub_n (g_sub_n (g_sub_n (g_sub_n g_sub_0)))))))))))) (b_L_randomLine_b509 hl 5 _ _ (by omega) (by omega) _ _ _ _ _ _ _)
set_option maxRecDepth 100000 in
theorem b_L_randomLine_b225 {l : Launch} {G : gG} (hl : l.stackTraces = false) : ∀ (n kb225 nb225 : Nat), kb225 + n * 3 ≤ 31 → nb225 + n * 26 ≤ 218 → ∀ (h : gH) (l0 : Nat) (l1 : Nat) (l2 : Nat) (l3 : Nat) (l4 : Int32), GX l G M_L_randomLine (g_phi G g_wQ (m_R M_L_randomLine).cells (m_R M_L_randomLine).slots) kb225 nb225 225 [some (.ref l0), some (.ref l1), some (.ref l2), some (.ref l3), some (.int l4), none, none, none, none, none, none, none] [] h (f_L_randomLine_b225 G n h l0 l1 l2 l3 l4) := by
  intro n
  induction n with
  | zero => intros; exact X_none
  | succ n ih =>
    intro kb225 nb225 hk0 hn0 h l0 l1 l2 l3 l4
    have hkb225 : kb225 + 3 ≤ 31 := by omega
    have hnb225 : nb225 + 26 ≤ 218 := by omega
    rw [f_L_randomLine_b225]
    refine X_iload rfl rfl rfl ?_
    refine X_bif_le rfl rfl (fun _ => ?_) (fun _ => ?_)
    · refine X_aload_n rfl rfl rfl ?_
      refine X_iconst (v := 2) rfl rfl (by decide) ?_
      refine X_kV_I (k1 := kb225) (n1 := nb225) (M' := M_X11_below) (nA := 1) (As := [.int 2]) (st := []) (b := l2) (ci := 11) rfl rfl (by decide +kernel) rfl rfl rfl rfl (by show kb225 + 0 = kb225; omega) (by show nb225 + 0 = nb225; omega) (X_ble (by show kb225 ≤ 450; omega)) (X_ble (by show nb225 ≤ 3606; omega)) (fun _ _ e => ct_X11_below  e) (fun y232 => ?_)
      refine X_istore rfl rfl rfl rfl ?_
      refine X_aload_n rfl rfl rfl ?_
      refine X_bipush (v := 40) rfl rfl (by decide) ?_
      refine X_kV_I (k1 := kb225) (n1 := nb225) (M' := M_X11_below) (nA := 1) (As := [.int 40]) (st := []) (b := l2) (ci := 11) rfl rfl (by decide +kernel) rfl rfl rfl rfl (by show kb225 + 0 = kb225; omega) (by show nb225 + 0 = nb225; omega) (X_ble (by show kb225 ≤ 450; omega)) (X_ble (by show nb225 ≤ 3606; omega)) (fun _ _ e => ct_X11_below  e) (fun y240 => ?_)
      refine X_istore rfl rfl rfl rfl ?_
      refine X_iconst (v := 1) rfl rfl (by decide) ?_
      refine X_istore rfl rfl rfl rfl ?_
      refine X_aload_n rfl rfl rfl ?_
      refine X_getA rfl rfl (fun v249 => ?_)
      refine X_astore rfl rfl rfl rfl ?_
      refine X_aload rfl rfl rfl ?_
      refine X_aln rfl rfl (fun v256 => ?_)
      refine X_istore rfl rfl rfl rfl ?_
      refine X_iconst (v := 0) rfl rfl (by decide) ?_
      refine X_istore rfl rfl rfl rfl ?_
      exact X_sub (g_sub_s (g_sub_s (g_sub_s (g_sub_s (g_sub_s (g_sub_s (g_sub_s (g_sub_s (g_sub_s (g_sub_s (g_sub_s (g_sub_n g_sub_0)))))))))))) (b_L_randomLine_b262 hl hkb225 hnb225 (ih _ _ (by omega) (by omega)) g_N _ _ _ _ _ _ _ _ _ _ _ _)
    · refine X_aload_n rfl rfl rfl ?_
      refine X_iconst (v := 5) rfl rfl (by decide) ?_
      refine X_kV_I (k1 := kb225) (n1 := nb225) (M' := M_X11_below) (nA := 1) (As := [.int 5]) (st := []) (b := l2) (ci := 11) rfl rfl (by decide +kernel) rfl rfl rfl rfl (by show kb225 + 0 = kb225; omega) (by show nb225 + 0 = nb225; omega) (X_ble (by show kb225 ≤ 450; omega)) (X_ble (by show nb225 ≤ 3606; omega)) (fun _ _ e => ct_X11_below  e) (fun y395 => ?_)
      refine X_istore rfl rfl rfl rfl ?_
      refine X_wid (k' := 31) (n' := 218) (by omega) (by omega) ?_
      exact X_sub (g_sub_s (g_sub_s (g_sub_s (g_sub_s (g_sub_s (g_sub_n (g_sub_n (g_sub_n (g_sub_n (g_sub_n (g_sub_n (g_sub_n g_sub_0)))))))))))) (b_L_randomLine_b400 hl 6 _ _ (by omega) (by omega) _ _ _ _ _ _)
set_option maxRecDepth 100000 in
theorem b_L_randomLine_b65 {l : Launch} {G : gG} (hl : l.stackTraces = false) : ∀ (n kb65 nb65 : Nat), kb65 + n * 1 ≤ 13 → nb65 + n * 4 ≤ 62 → ∀ (h : gH) (l0 : Nat) (l1 : Nat) (l2 : Nat) (l3 : Nat) (l4 : Int32), GX l G M_L_randomLine (g_phi G g_wQ (m_R M_L_randomLine).cells (m_R M_L_randomLine).slots) kb65 nb65 65 [some (.ref l0), some (.ref l1), some (.ref l2), some (.ref l3), some (.int l4), none, none, none, none, none, none, none] [] h (f_L_randomLine_b65 G n h l0 l1 l2 l3 l4) := by
  intro n
  induction n with
  | zero => intros; exact X_none
  | succ n ih =>
    intro kb65 nb65 hk0 hn0 h l0 l1 l2 l3 l4
    have hkb65 : kb65 + 1 ≤ 13 := by omega
    have hnb65 : nb65 + 4 ≤ 62 := by omega
    rw [f_L_randomLine_b65]
    refine X_iload rfl rfl rfl ?_
    refine X_iconst (v := 2) rfl rfl (by decide) ?_
    refine X_bicmp_ge rfl rfl (fun _ => ?_) (fun _ => ?_)
    · refine X_aload_n rfl rfl rfl ?_
      refine X_iconst (v := 3) rfl rfl (by decide) ?_
      refine X_kV_I (k1 := kb65) (n1 := nb65) (M' := M_X11_below) (nA := 1) (As := [.int 3]) (st := []) (b := l2) (ci := 11) rfl rfl (by decide +kernel) rfl rfl rfl rfl (by show kb65 + 0 = kb65; omega) (by show nb65 + 0 = nb65; omega) (X_ble (by show kb65 ≤ 450; omega)) (X_ble (by show nb65 ≤ 3606; omega)) (fun _ _ e => ct_X11_below  e) (fun y73 => ?_)
      refine X_bif_ne rfl rfl (fun _ => ?_) (fun _ => ?_)
      · refine X_goto rfl rfl ?_
        refine X_wid (k' := kb65 + 1) (n' := nb65 + 4) (by omega) (by omega) ?_
        exact X_sub (g_sub_s (g_sub_s (g_sub_s (g_sub_s (g_sub_s (g_sub_n (g_sub_n (g_sub_n (g_sub_n (g_sub_n (g_sub_n (g_sub_n g_sub_0)))))))))))) (b_L_randomLine_b212 hl hkb65 hnb65 (ih _ _ (by omega) (by omega)) _ _ _ _ _ _)
      · refine X_aload_n rfl rfl rfl ?_
        refine X_getA rfl rfl (fun v83 => ?_)
        refine X_iload rfl rfl rfl ?_
        refine X_qld9 (t := 7) rfl rfl (by simp) (fun v88 => ?_)
        refine X_nn (fun v88n e88 => ?_)
        subst e88
        refine X_aload_n rfl rfl rfl ?_
        refine X_bipush (v := 10) rfl rfl (by decide) ?_
        refine X_kV_I (k1 := kb65) (n1 := nb65) (M' := M_X11_below) (nA := 1) (As := [.int 10]) (st := [.ref v88n]) (b := l2) (ci := 11) rfl rfl (by decide +kernel) rfl rfl rfl rfl (by show kb65 + 0 = kb65; omega) (by show nb65 + 0 = nb65; omega) (X_ble (by show kb65 ≤ 450; omega)) (X_ble (by show nb65 ≤ 3606; omega)) (fun _ _ e => ct_X11_below  e) (fun y92 => ?_)
        refine X_put rfl rfl rfl rfl rfl (fun h95 => ?_)
        refine X_aload_n rfl rfl rfl ?_
        refine X_getA rfl rfl (fun v99 => ?_)
        refine X_iload rfl rfl rfl ?_
        refine X_qld9 (t := 7) rfl rfl (by simp) (fun v104 => ?_)
        refine X_nn (fun v104n e104 => ?_)
        subst e104
        refine X_aload_n rfl rfl rfl ?_
        refine X_bipush (v := 24) rfl rfl (by decide) ?_
        refine X_kV_I (k1 := kb65) (n1 := nb65) (M' := M_X11_below) (nA := 1) (As := [.int 24]) (st := [.ref v104n]) (b := l2) (ci := 11) rfl rfl (by decide +kernel) rfl rfl rfl rfl (by show kb65 + 0 = kb65; omega) (by show nb65 + 0 = nb65; omega) (X_ble (by show kb65 ≤ 450; omega)) (X_ble (by show nb65 ≤ 3606; omega)) (fun _ _ e => ct_X11_below  e) (fun y108 => ?_)
        refine X_put rfl rfl rfl rfl rfl (fun h111 => ?_)
        refine X_aload_n rfl rfl rfl ?_
        refine X_getA rfl rfl (fun v115 => ?_)
        refine X_iload rfl rfl rfl ?_
        refine X_qld9 (t := 7) rfl rfl (by simp) (fun v120 => ?_)
        refine X_nn (fun v120n e120 => ?_)
        subst e120
        refine X_aload_n rfl rfl rfl ?_
        refine X_iconst (v := 2) rfl rfl (by decide) ?_
        refine X_kV_I (k1 := kb65) (n1 := nb65) (M' := M_X11_below) (nA := 1) (As := [.int 2]) (st := [.ref v120n]) (b := l2) (ci := 11) rfl rfl (by decide +kernel) rfl rfl rfl rfl (by show kb65 + 0 = kb65; omega) (by show nb65 + 0 = nb65; omega) (X_ble (by show kb65 ≤ 450; omega)) (X_ble (by show nb65 ≤ 3606; omega)) (fun _ _ e => ct_X11_below  e) (fun y123 => ?_)
        refine X_bif_ne rfl rfl (fun _ => ?_) (fun _ => ?_)
        · refine X_aload_n rfl rfl rfl ?_
          refine X_getA rfl rfl (fun v130 => ?_)
          refine X_iload rfl rfl rfl ?_
          refine X_qld9 (t := 7) rfl rfl (by simp) (fun v135 => ?_)
          refine X_nn (fun v135n e135 => ?_)
          subst e135
          refine X_getI rfl rfl (fun v136 => ?_)
          refine X_goto rfl rfl ?_
          exact X_sub (g_sub_s (g_sub_s (g_sub_s (g_sub_s (g_sub_s (g_sub_n (g_sub_n (g_sub_n (g_sub_n (g_sub_n (g_sub_n (g_sub_n g_sub_0)))))))))))) (b_L_randomLine_b148 hl hkb65 hnb65 (ih _ _ (by omega) (by omega)) _ _ _ _ _ _ _ _)
        · refine X_aload_n rfl rfl rfl ?_
          refine X_bipush (v := 24) rfl rfl (by decide) ?_
          refine X_kV_I (k1 := kb65) (n1 := nb65) (M' := M_X11_below) (nA := 1) (As := [.int 24]) (st := [.ref v120n]) (b := l2) (ci := 11) rfl rfl (by decide +kernel) rfl rfl rfl rfl (by show kb65 + 0 = kb65; omega) (by show nb65 + 0 = nb65; omega) (X_ble (by show kb65 ≤ 450; omega)) (X_ble (by show nb65 ≤ 3606; omega)) (fun _ _ e => ct_X11_below  e) (fun y145 => ?_)
          exact X_sub (g_sub_s (g_sub_s (g_sub_s (g_sub_s (g_sub_s (g_sub_n (g_sub_n (g_sub_n (g_sub_n (g_sub_n (g_sub_n (g_sub_n g_sub_0)))))))))))) (b_L_randomLine_b148 hl hkb65 hnb65 (ih _ _ (by omega) (by omega)) _ _ _ _ _ _ _ _)
    · refine X_aload_n rfl rfl rfl ?_
      refine X_iconst (v := 5) rfl rfl (by decide) ?_
      refine X_kV_I (k1 := kb65) (n1 := nb65) (M' := M_X11_below) (nA := 1) (As := [.int 5]) (st := []) (b := l2) (ci := 11) rfl rfl (by decide +kernel) rfl rfl rfl rfl (by show kb65 + 0 = kb65; omega) (by show nb65 + 0 = nb65; omega) (X_ble (by show kb65 ≤ 450; omega)) (X_ble (by show nb65 ≤ 3606; omega)) (fun _ _ e => ct_X11_below  e) (fun y220 => ?_)
      refine X_istore rfl rfl rfl rfl ?_
      refine X_wid (k' := 13) (n' := 62) (by omega) (by omega) ?_
      exact X_sub (g_sub_s (g_sub_s (g_sub_s (g_sub_s (g_sub_s (g_sub_n (g_sub_n (g_sub_n (g_sub_n (g_sub_n (g_sub_n (g_sub_n g_sub_0)))))))))))) (b_L_randomLine_b225 hl 6 _ _ (by omega) (by omega) _ _ _ _ _ _)
set_option maxRecDepth 100000 in
theorem ct_L_randomLine {l : Launch} {G : gG} (hl : l.stackTraces = false) {h : gH} {p0 : Nat} {p1 : Nat} {p2 : Nat} {r : Option Nat} {h1 : gH} (e : f_L_randomLine G h p0 p1 p2 = some (r, h1)) : Ct l G M_L_randomLine [.ref p0, .ref p1, .ref p2] h (some (va_rf r)) h1 := by
  refine Ct_of (L := [some (.ref p0), some (.ref p1), some (.ref p2), none, none, none, none, none, none, none, none, none]) ok_L_randomLine (by decide +kernel) rfl rfl rfl (ρ := g_wQ) (F := f_L_randomLine G h p0 p1 p2) ?_ e rfl
  unfold f_L_randomLine
  refine X_newO (k1 := 1) (n1 := 12) rfl rfl rfl (by decide +kernel) rfl rfl (fun h0 => ?_)
  refine X_dup rfl rfl rfl ?_
  refine X_kIH_U (k1 := 9) (n1 := 48) (M' := M_X10_init) (nA := 0) (As := []) (st := [.ref h.1]) (b := h.1) rfl rfl (by decide +kernel) rfl rfl rfl rfl rfl rfl rfl (fun _ e => ct_X10_init  e) (fun h4 => ?_)
  refine X_astore_n rfl rfl rfl rfl ?_
  refine X_aload_n rfl rfl rfl ?_
  refine X_iconst (v := 1) rfl rfl (by decide) ?_
  refine X_aload_n rfl rfl rfl ?_
  refine X_bipush (v := 8) rfl rfl (by decide) ?_
  refine X_kV_I (k1 := 9) (n1 := 48) (M' := M_X11_below) (nA := 1) (As := [.int 8]) (st := [.int 1, .ref h.1]) (b := p2) (ci := 11) rfl rfl (by decide +kernel) rfl rfl rfl rfl rfl rfl rfl rfl (fun _ _ e => ct_X11_below  e) (fun y13 => ?_)
  refine X_iadd rfl rfl ?_
  refine X_put rfl rfl rfl rfl rfl (fun h17 => ?_)
  refine X_aload_n rfl rfl rfl ?_
  refine X_iconst (v := 1) rfl rfl (by decide) ?_
  refine X_aload_n rfl rfl rfl ?_
  refine X_iconst (v := 4) rfl rfl (by decide) ?_
  refine X_kV_I (k1 := 9) (n1 := 48) (M' := M_X11_below) (nA := 1) (As := [.int 4]) (st := [.int 1, .ref h.1]) (b := p2) (ci := 11) rfl rfl (by decide +kernel) rfl rfl rfl rfl rfl rfl rfl rfl (fun _ _ e => ct_X11_below  e) (fun y24 => ?_)
  refine X_iadd rfl rfl ?_
  refine X_put rfl rfl rfl rfl rfl (fun h28 => ?_)
  refine X_aload_n rfl rfl rfl ?_
  refine X_aload_n rfl rfl rfl ?_
  refine X_ldcG (i := 0) (tx := "relay") rfl rfl (by decide +kernel) ?_
  refine X_iconst (v := 2) rfl rfl (by decide) ?_
  refine X_nwI (k1 := 10) (n1 := 50) (B := 2) rfl rfl rfl rfl rfl rfl rfl (fun h36 => ?_)
  refine X_dup rfl rfl rfl ?_
  refine X_iconst (v := 0) rfl rfl (by decide) ?_
  refine X_aload_n rfl rfl rfl ?_
  refine X_getI rfl rfl (fun v41 => ?_)
  refine X_ast rfl rfl (fun h44 => ?_)
  refine X_dup rfl rfl rfl ?_
  refine X_iconst (v := 1) rfl rfl (by decide) ?_
  refine X_aload_n rfl rfl rfl ?_
  refine X_getI rfl rfl (fun v48 => ?_)
  refine X_ast rfl rfl (fun h51 => ?_)
  refine X_kS_U (k1 := 10) (n1 := 50) (M' := M_L_writeAll) (nA := 4) (As := [.ref p0, .ref p1, .ref (g_aK G 0), .ref h28.1]) (st := []) rfl rfl (by decide +kernel) rfl rfl rfl rfl rfl rfl rfl (fun _ e => ct_L_writeAll  e) (fun h52 => ?_)
  refine X_aload_n rfl rfl rfl ?_
  refine X_aload_n rfl rfl rfl ?_
  refine X_ldcG (i := 22) (tx := ";") rfl rfl (by decide +kernel) ?_
  refine X_kS_U (k1 := 10) (n1 := 50) (M' := M_L_write) (nA := 3) (As := [.ref p0, .ref p1, .ref (g_aK G 22)]) (st := []) rfl rfl (by decide +kernel) rfl rfl rfl rfl rfl rfl rfl (fun _ e => ct_L_write  e) (fun h59 => ?_)
  refine X_iconst (v := 0) rfl rfl (by decide) ?_
  refine X_istore rfl rfl rfl rfl ?_
  exact X_sub (g_sub_s (g_sub_s (g_sub_s (g_sub_s (g_sub_s (g_sub_n (g_sub_n (g_sub_n (g_sub_n (g_sub_n (g_sub_n (g_sub_n g_sub_0)))))))))))) (b_L_randomLine_b65 hl 3 _ _ (by omega) (by omega) _ _ _ _ _ _)
def f_L_agrees_b99 (G : gG) (K71 : gH → Nat → Nat → Int32 → Int32 → Option (Int32 × gH)) (h : gH) (l0 : Nat) (l1 : Nat) (l3 : Int32) (s0 : Int32) : Option (Int32 × gH) :=
  K71 h l0 l1 s0 (l3 + 1)
def f_L_agrees_b71 (G : gG) : Nat → gH → Nat → Nat → Int32 → Int32 → Option (Int32 × gH)
  | 0, _, _, _, _, _ => none
  | n + 1, h, l0, l1, l2, l3 =>
    (if l3 < 13 then
      (if l2 = 0 then
        (g_z l2).bind fun z => some (l2, h)
      else
        (f_L_state G h l0 l3).bind fun y83 =>
        bif g_is y83.2 l1 10 then
        (f_X10_told G y83.2 l1 l3).bind fun v88 =>
        (if y83.1 = v88 then
          f_L_agrees_b99 G (f_L_agrees_b71 G n) y83.2 l0 l1 l3 1
        else
          f_L_agrees_b99 G (f_L_agrees_b71 G n) y83.2 l0 l1 l3 0)
        else none)
    else
      (g_z l2).bind fun z => some (l2, h))
def f_L_agrees_b68 (G : gG) (h : gH) (l0 : Nat) (l1 : Nat) (s0 : Int32) : Option (Int32 × gH) :=
  f_L_agrees_b71 G 15 h l0 l1 s0 0
def f_L_agrees_b67 (G : gG) (h : gH) (l0 : Nat) (l1 : Nat) : Option (Int32 × gH) :=
  f_L_agrees_b68 G h l0 l1 0
def f_L_agrees (G : gG) (h : gH) (p0 : Nat) (p1 : Nat) : Option (Int32 × gH) :=
  bif g_is h p0 7 then
  (f_X7_checksum h p0).bind fun v1 =>
  bif g_is h p1 10 then
  (f_X10_checksum G h p1).bind fun v5 =>
  (if (lg_cmp v1 v5) = 0 then
    (f_L_state G h p0 13).bind fun y15 =>
    (if y15.1 = (-2000000098) then
      (g_gA y15.2 p1 10 1).bind fun v25 =>
      (g_aln y15.2 v25).bind fun v28 =>
      (f_L_message G y15.2 p0 v28 0).bind fun y30 =>
      (if y30.1 = (-2000000097) then
        bif g_is y30.2 p1 10 then
        (f_X10_inState G y30.2 p1 0).bind fun v41 =>
        (f_L_next G y30.2 p0 v41).bind fun y44 =>
        (if y44.1 = (-2000000100) then
          (f_L_channel G y44.2 p0 2 0).bind fun y55 =>
          (if y55.1 = (-2000000097) then
            f_L_agrees_b68 G y55.2 p0 p1 1
          else
            f_L_agrees_b67 G y55.2 p0 p1)
        else
          f_L_agrees_b67 G y44.2 p0 p1)
        else none
      else
        f_L_agrees_b67 G y30.2 p0 p1)
    else
      f_L_agrees_b67 G y15.2 p0 p1)
  else
    f_L_agrees_b67 G h p0 p1)
  else none
  else none
set_option maxRecDepth 100000 in
theorem b_L_agrees_b99 {l : Launch} {G : gG} (hl : l.stackTraces = false) {kb71 nb71 : Nat} {K71 : gH → Nat → Nat → Int32 → Int32 → Option (Int32 × gH)} (hkb71 : kb71 + 1 ≤ 19) (hnb71 : nb71 + 6 ≤ 114) (hK71 : ∀ (h : gH) (l0 : Nat) (l1 : Nat) (l2 : Int32) (l3 : Int32), GX l G M_L_agrees (g_phi G g_wI (m_R M_L_agrees).cells (m_R M_L_agrees).slots) (kb71 + 1) (nb71 + 6) 71 [some (.ref l0), some (.ref l1), some (.int l2), some (.int l3)] [] h (K71 h l0 l1 l2 l3)) (h : gH) (l0 : Nat) (l1 : Nat) (l3 : Int32) (s0 : Int32) : GX l G M_L_agrees (g_phi G g_wI (m_R M_L_agrees).cells (m_R M_L_agrees).slots) (kb71 + 1) (nb71 + 6) 99 [some (.ref l0), some (.ref l1), none, some (.int l3)] [.int s0] h (f_L_agrees_b99 G K71 h l0 l1 l3 s0) := by
  unfold f_L_agrees_b99
  refine X_istore_n rfl rfl rfl rfl ?_
  refine X_iinc (v := l3 + 1) rfl rfl rfl (congrArg (fun z => l3 + z) (by decide : Int32.ofInt 1 = 1)) rfl ?_
  refine X_goto rfl rfl ?_
  refine X_wid (k' := kb71 + 1) (n' := nb71 + 6) (by omega) (by omega) ?_
  exact X_sub (g_sub_s (g_sub_s (g_sub_s (g_sub_s g_sub_0)))) (hK71 _ _ _ _ _)
set_option maxRecDepth 100000 in
theorem b_L_agrees_b71 {l : Launch} {G : gG} (hl : l.stackTraces = false) : ∀ (n kb71 nb71 : Nat), kb71 + n * 1 ≤ 19 → nb71 + n * 6 ≤ 114 → ∀ (h : gH) (l0 : Nat) (l1 : Nat) (l2 : Int32) (l3 : Int32), GX l G M_L_agrees (g_phi G g_wI (m_R M_L_agrees).cells (m_R M_L_agrees).slots) kb71 nb71 71 [some (.ref l0), some (.ref l1), some (.int l2), some (.int l3)] [] h (f_L_agrees_b71 G n h l0 l1 l2 l3) := by
  intro n
  induction n with
  | zero => intros; exact X_none
  | succ n ih =>
    intro kb71 nb71 hk0 hn0 h l0 l1 l2 l3
    have hkb71 : kb71 + 1 ≤ 19 := by omega
    have hnb71 : nb71 + 6 ≤ 114 := by omega
    rw [f_L_agrees_b71]
    refine X_iload_n rfl rfl rfl ?_
    refine X_bipush (v := 13) rfl rfl (by decide) ?_
    refine X_bicmp_ge rfl rfl (fun _ => ?_) (fun _ => ?_)
    · refine X_iload_n rfl rfl rfl ?_
      refine X_bif_eq rfl rfl (fun _ => ?_) (fun _ => ?_)
      · refine X_iload_n rfl rfl rfl ?_
        exact X_zret rfl rfl rfl ⟨_, rfl, rfl⟩ (X_ble (by show kb71 ≤ 19; omega)) (X_ble (by show nb71 ≤ 114; omega))
      · refine X_aload_n rfl rfl rfl ?_
        refine X_iload_n rfl rfl rfl ?_
        refine X_kY_I (k1 := kb71 + 1) (n1 := nb71 + 6) (M' := M_L_state) (nA := 2) (As := [.ref l0, .int l3]) (st := []) rfl rfl (by decide +kernel) rfl rfl rfl (by show kb71 + 1 = kb71 + 1; omega) (by show nb71 + 6 = nb71 + 6; omega) (X_ble (by show kb71 + 1 ≤ 19; omega)) (X_ble (by show nb71 + 6 ≤ 114; omega)) (fun _ _ e => cy_L_state hl  e) (fun y83 => ?_)
        refine X_aload_n rfl rfl rfl ?_
        refine X_iload_n rfl rfl rfl ?_
        refine X_callV_IR (M' := M_X10_told) (nA := 1) (As := [.int l3]) (st := [.int y83.1]) (b := l1) (ci := 10) rfl rfl (by decide +kernel) rfl rfl rfl rfl rfl rfl (X_ble (by show kb71 + 1 ≤ 19; omega)) (X_ble (by show nb71 + 6 ≤ 114; omega)) (fun _ e => ct_X10_told  e) (fun v88 => ?_)
        refine X_bicmp_ne rfl rfl (fun _ => ?_) (fun _ => ?_)
        · refine X_iconst (v := 1) rfl rfl (by decide) ?_
          refine X_goto rfl rfl ?_
          exact X_sub (g_sub_s (g_sub_s (g_sub_n (g_sub_s g_sub_0)))) (b_L_agrees_b99 hl hkb71 hnb71 (ih _ _ (by omega) (by omega)) _ _ _ _ _)
        · refine X_iconst (v := 0) rfl rfl (by decide) ?_
          exact X_sub (g_sub_s (g_sub_s (g_sub_n (g_sub_s g_sub_0)))) (b_L_agrees_b99 hl hkb71 hnb71 (ih _ _ (by omega) (by omega)) _ _ _ _ _)
    · refine X_iload_n rfl rfl rfl ?_
      exact X_zret rfl rfl rfl ⟨_, rfl, rfl⟩ (X_ble (by show kb71 ≤ 19; omega)) (X_ble (by show nb71 ≤ 114; omega))
set_option maxRecDepth 100000 in
theorem b_L_agrees_b68 {l : Launch} {G : gG} (hl : l.stackTraces = false) (h : gH) (l0 : Nat) (l1 : Nat) (s0 : Int32) : GX l G M_L_agrees (g_phi G g_wI (m_R M_L_agrees).cells (m_R M_L_agrees).slots) 4 24 68 [some (.ref l0), some (.ref l1), none, none] [.int s0] h (f_L_agrees_b68 G h l0 l1 s0) := by
  unfold f_L_agrees_b68
  refine X_istore_n rfl rfl rfl rfl ?_
  refine X_iconst (v := 0) rfl rfl (by decide) ?_
  refine X_istore_n rfl rfl rfl rfl ?_
  exact X_sub (g_sub_s (g_sub_s (g_sub_s (g_sub_s g_sub_0)))) (b_L_agrees_b71 hl 15 _ _ (by omega) (by omega) _ _ _ _ _)
set_option maxRecDepth 100000 in
theorem b_L_agrees_b67 {l : Launch} {G : gG} (hl : l.stackTraces = false) (h : gH) (l0 : Nat) (l1 : Nat) : GX l G M_L_agrees (g_phi G g_wI (m_R M_L_agrees).cells (m_R M_L_agrees).slots) 4 24 67 [some (.ref l0), some (.ref l1), none, none] [] h (f_L_agrees_b67 G h l0 l1) := by
  unfold f_L_agrees_b67
  refine X_iconst (v := 0) rfl rfl (by decide) ?_
  exact X_sub (g_sub_s (g_sub_s (g_sub_n (g_sub_n g_sub_0)))) (b_L_agrees_b68 hl _ _ _ _)
set_option maxRecDepth 100000 in
theorem ct_L_agrees {l : Launch} {G : gG} (hl : l.stackTraces = false) {h : gH} {p0 : Nat} {p1 : Nat} {r : Int32} {h1 : gH} (e : f_L_agrees G h p0 p1 = some (r, h1)) : Ct l G M_L_agrees [.ref p0, .ref p1] h (some (.int r)) h1 := by
  refine Ct_of (L := [some (.ref p0), some (.ref p1), none, none]) ok_L_agrees (by decide +kernel) rfl rfl rfl (ρ := g_wI) (F := f_L_agrees G h p0 p1) ?_ e rfl
  unfold f_L_agrees
  refine X_aload_n rfl rfl rfl ?_
  refine X_callV_LR (M' := M_X7_checksum) (nA := 0) (As := []) (st := []) (b := p0) (ci := 7) rfl rfl (by decide +kernel) rfl rfl rfl rfl rfl rfl rfl rfl (fun _ e => ct_X7_checksum  e) (fun v1 => ?_)
  refine X_aload_n rfl rfl rfl ?_
  refine X_callV_LR (M' := M_X10_checksum) (nA := 0) (As := []) (st := [.long v1]) (b := p1) (ci := 10) rfl rfl (by decide +kernel) rfl rfl rfl rfl rfl rfl rfl rfl (fun _ e => ct_X10_checksum  e) (fun v5 => ?_)
  refine X_lcmp rfl rfl ?_
  refine X_bif_ne rfl rfl (fun _ => ?_) (fun _ => ?_)
  · refine X_aload_n rfl rfl rfl ?_
    refine X_bipush (v := 13) rfl rfl (by decide) ?_
    refine X_kY_I (k1 := 1) (n1 := 6) (M' := M_L_state) (nA := 2) (As := [.ref p0, .int 13]) (st := []) rfl rfl (by decide +kernel) rfl rfl rfl rfl rfl rfl rfl (fun _ _ e => cy_L_state hl  e) (fun y15 => ?_)
    refine X_ldc (v := -2000000098) rfl rfl (by decide +kernel) ?_
    refine X_bicmp_ne rfl rfl (fun _ => ?_) (fun _ => ?_)
    · refine X_aload_n rfl rfl rfl ?_
      refine X_aload_n rfl rfl rfl ?_
      refine X_getA rfl rfl (fun v25 => ?_)
      refine X_aln rfl rfl (fun v28 => ?_)
      refine X_iconst (v := 0) rfl rfl (by decide) ?_
      refine X_kY_I (k1 := 2) (n1 := 12) (M' := M_L_message) (nA := 3) (As := [.ref p0, .int v28, .int 0]) (st := []) rfl rfl (by decide +kernel) rfl rfl rfl rfl rfl rfl rfl (fun _ _ e => cy_L_message hl  e) (fun y30 => ?_)
      refine X_ldc (v := -2000000097) rfl rfl (by decide +kernel) ?_
      refine X_bicmp_ne rfl rfl (fun _ => ?_) (fun _ => ?_)
      · refine X_aload_n rfl rfl rfl ?_
        refine X_aload_n rfl rfl rfl ?_
        refine X_iconst (v := 0) rfl rfl (by decide) ?_
        refine X_callV_IR (M' := M_X10_inState) (nA := 1) (As := [.int 0]) (st := [.ref p0]) (b := p1) (ci := 10) rfl rfl (by decide +kernel) rfl rfl rfl rfl rfl rfl rfl rfl (fun _ e => ct_X10_inState  e) (fun v41 => ?_)
        refine X_kY_I (k1 := 3) (n1 := 18) (M' := M_L_next) (nA := 2) (As := [.ref p0, .int v41]) (st := []) rfl rfl (by decide +kernel) rfl rfl rfl rfl rfl rfl rfl (fun _ _ e => cy_L_next hl  e) (fun y44 => ?_)
        refine X_ldc (v := -2000000100) rfl rfl (by decide +kernel) ?_
        refine X_bicmp_ne rfl rfl (fun _ => ?_) (fun _ => ?_)
        · refine X_aload_n rfl rfl rfl ?_
          refine X_iconst (v := 2) rfl rfl (by decide) ?_
          refine X_iconst (v := 0) rfl rfl (by decide) ?_
          refine X_kY_I (k1 := 4) (n1 := 24) (M' := M_L_channel) (nA := 3) (As := [.ref p0, .int 2, .int 0]) (st := []) rfl rfl (by decide +kernel) rfl rfl rfl rfl rfl rfl rfl (fun _ _ e => cy_L_channel hl  e) (fun y55 => ?_)
          refine X_ldc (v := -2000000097) rfl rfl (by decide +kernel) ?_
          refine X_bicmp_ne rfl rfl (fun _ => ?_) (fun _ => ?_)
          · refine X_iconst (v := 1) rfl rfl (by decide) ?_
            refine X_goto rfl rfl ?_
            exact X_sub (g_sub_s (g_sub_s (g_sub_n (g_sub_n g_sub_0)))) (b_L_agrees_b68 hl _ _ _ _)
          · exact X_sub (g_sub_s (g_sub_s (g_sub_n (g_sub_n g_sub_0)))) (b_L_agrees_b67 hl _ _ _)
        · refine X_wid (k' := 4) (n' := 24) (by omega) (by omega) ?_
          exact X_sub (g_sub_s (g_sub_s (g_sub_n (g_sub_n g_sub_0)))) (b_L_agrees_b67 hl _ _ _)
      · refine X_wid (k' := 4) (n' := 24) (by omega) (by omega) ?_
        exact X_sub (g_sub_s (g_sub_s (g_sub_n (g_sub_n g_sub_0)))) (b_L_agrees_b67 hl _ _ _)
    · refine X_wid (k' := 4) (n' := 24) (by omega) (by omega) ?_
      exact X_sub (g_sub_s (g_sub_s (g_sub_n (g_sub_n g_sub_0)))) (b_L_agrees_b67 hl _ _ _)
  · refine X_wid (k' := 4) (n' := 24) (by omega) (by omega) ?_
    exact X_sub (g_sub_s (g_sub_s (g_sub_n (g_sub_n g_sub_0)))) (b_L_agrees_b67 hl _ _ _)
