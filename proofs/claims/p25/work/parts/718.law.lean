set_option maxRecDepth 100000 in
theorem b_L_law_b196 {l : Launch} {G : gG} (hl : l.stackTraces = false) {Q : State → Array Value → List Frame → Prop} {Z : State → Prop} {b N : Nat} {xs : Nat → Int32} (hX : g_scr G Q b N xs) (hret : ∀ (pc : Nat) (L : List (Option Value)) (h : gH) (k n : Nat) (v : Int32), decode code pc = .ok (.ireturn, 1) → k ≤ 600086 → n ≤ 7301442 → GX l G M_L_law (g_phS Q Z) k n pc L [.int v] h (some (v, h))) {kb4 nb4 : Nat} {K4 : gH → Int32 → Int32 → Option (Int32 × gH)} (hkb4 : kb4 + 9458 ≤ 28374) (hnb4 : nb4 + 56546 ≤ 169638) (hK4 : ∀ (h : gH) (l1 : Int32) (l2 : Int32), GX l G M_L_law (g_phS Q Z) (kb4 + 9458) (nb4 + 56546) 4 [some (.ref b), some (.int l1), some (.int l2), none, none, none, none, none, none, none, none, none, none, none, none, none, none, none, none, none, none, none, none, none, none] [] h (K4 h l1 l2)) (h : gH) (l2 : Int32) (l3 : Nat) (l4 : Nat) (l5 : Nat) : GX l G M_L_law (g_phS Q Z) (kb4 + 653) (nb4 + 11932) 196 [some (.ref b), none, some (.int l2), some (.ref l3), some (.ref l4), some (.ref l5), none, none, none, none, none, none, none, none, none, none, none, none, none, none, none, none, none, none, none] [] h (f_L_law_b196 G xs N K4 h l2 l3 l4 l5) := by
  unfold f_L_law_b196
  refine X_iconst (v := 0) rfl rfl (by decide) ?_
  exact X_sub (g_sub_s (g_sub_n (g_sub_s (g_sub_s (g_sub_s (g_sub_s (g_sub_n (g_sub_n (g_sub_n (g_sub_n (g_sub_n (g_sub_n (g_sub_n (g_sub_n (g_sub_n (g_sub_n (g_sub_n (g_sub_n (g_sub_n (g_sub_n (g_sub_n (g_sub_n (g_sub_n (g_sub_n (g_sub_n g_sub_0))))))))))))))))))))))))) (b_L_law_b197 hl hX hret hkb4 hnb4 hK4 _ _ _ _ _ _)
set_option maxRecDepth 100000 in
theorem b_L_law_b4 {l : Launch} {G : gG} (hl : l.stackTraces = false) {Q : State → Array Value → List Frame → Prop} {Z : State → Prop} {b N : Nat} {xs : Nat → Int32} (hX : g_scr G Q b N xs) (hret : ∀ (pc : Nat) (L : List (Option Value)) (h : gH) (k n : Nat) (v : Int32), decode code pc = .ok (.ireturn, 1) → k ≤ 600086 → n ≤ 7301442 → GX l G M_L_law (g_phS Q Z) k n pc L [.int v] h (some (v, h))) : ∀ (n kb4 nb4 : Nat), kb4 + n * 9458 ≤ 28374 → nb4 + n * 56546 ≤ 169638 → ∀ (h : gH) (l1 : Int32) (l2 : Int32), GX l G M_L_law (g_phS Q Z) kb4 nb4 4 [some (.ref b), some (.int l1), some (.int l2), none, none, none, none, none, none, none, none, none, none, none, none, none, none, none, none, none, none, none, none, none, none] [] h (f_L_law_b4 G xs N n h l1 l2) := by
  intro n
  induction n with
  | zero => intros; exact X_none
  | succ n ih =>
    intro kb4 nb4 hk0 hn0 h l1 l2
    have hkb4 : kb4 + 9458 ≤ 28374 := by omega
    have hnb4 : nb4 + 56546 ≤ 169638 := by omega
    rw [f_L_law_b4]
    refine X_iload_n rfl rfl rfl ?_
    refine X_aload_n rfl rfl rfl ?_
    refine X_sln hX rfl rfl ?_
    refine X_bicmp_ge rfl rfl (fun _ => ?_) (fun _ => ?_)
    · refine X_iload_n rfl rfl rfl ?_
      refine X_iconst (v := 2) rfl rfl (by decide) ?_
      refine X_bicmp_ge rfl rfl (fun _ => ?_) (fun _ => ?_)
      · refine X_iload_n rfl rfl rfl ?_
        refine X_bif_eq rfl rfl (fun _ => ?_) (fun _ => ?_)
        · refine X_iload_n rfl rfl rfl ?_
          exact hret _ _ _ _ _ _ (by decide +kernel) (by show kb4 ≤ 600086; omega) (by show nb4 ≤ 7301442; omega)
        · refine X_newO (k1 := kb4 + 1) (n1 := nb4 + 6) rfl rfl (by show kb4 + 1 = kb4 + 1; omega) (by show nb4 + 6 = nb4 + 6; omega) (X_ble (by show kb4 + 1 ≤ 600086; omega)) (X_ble (by show nb4 + 6 ≤ 7301442; omega)) (fun h19 => ?_)
          refine X_dup rfl rfl rfl ?_
          refine X_kI_U (k1 := kb4 + 614) (n1 := nb4 + 11707) (M' := M_X7_init) (nA := 0) (As := []) (st := [.ref h.1]) (b := h.1) rfl rfl (by decide +kernel) rfl rfl rfl (by show kb4 + 1 + 613 = kb4 + 614; omega) (by show nb4 + 6 + 11701 = nb4 + 11707; omega) (X_ble (by show kb4 + 614 ≤ 600086; omega)) (X_ble (by show nb4 + 11707 ≤ 7301442; omega)) (fun _ e => ct_X7_init  e) (fun h23 => ?_)
          refine X_astore_n rfl rfl rfl rfl ?_
          refine X_bipush (v := 8) rfl rfl (by decide) ?_
          refine X_nwI (k1 := kb4 + 615) (n1 := nb4 + 11715) (B := 8) rfl rfl (by show kb4 + 614 + 1 = kb4 + 615; omega) (by show nb4 + 11707 + 8 = nb4 + 11715; omega) rfl (X_ble (by show kb4 + 615 ≤ 600086; omega)) (X_ble (by show nb4 + 11715 ≤ 7301442; omega)) (fun h29 => ?_)
          refine X_astore rfl rfl rfl rfl ?_
          refine X_newO (k1 := kb4 + 616) (n1 := nb4 + 11716) rfl rfl (by show kb4 + 615 + 1 = kb4 + 616; omega) (by show nb4 + 11715 + 1 = nb4 + 11716; omega) (X_ble (by show kb4 + 616 ≤ 600086; omega)) (X_ble (by show nb4 + 11716 ≤ 7301442; omega)) (fun h33 => ?_)
          refine X_dup rfl rfl rfl ?_
          refine X_aload_n rfl rfl rfl ?_
          refine X_iload_n rfl rfl rfl ?_
          refine X_sldB hX rfl rfl (fun v39 => ?_)
          refine X_kI_U (k1 := kb4 + 616) (n1 := nb4 + 11716) (M' := M_X11_init) (nA := 1) (As := [.int v39]) (st := [.ref h29.1]) (b := h29.1) rfl rfl (by decide +kernel) rfl rfl rfl (by show kb4 + 616 + 0 = kb4 + 616; omega) (by show nb4 + 11716 + 0 = nb4 + 11716; omega) (X_ble (by show kb4 + 616 ≤ 600086; omega)) (X_ble (by show nb4 + 11716 ≤ 7301442; omega)) (fun _ e => ct_X11_init  e) (fun h40 => ?_)
          refine X_astore rfl rfl rfl rfl ?_
          refine X_aload_n rfl rfl rfl ?_
          refine X_newO (k1 := kb4 + 617) (n1 := nb4 + 11728) rfl rfl (by show kb4 + 616 + 1 = kb4 + 617; omega) (by show nb4 + 11716 + 12 = nb4 + 11728; omega) (X_ble (by show kb4 + 617 ≤ 600086; omega)) (X_ble (by show nb4 + 11728 ≤ 7301442; omega)) (fun h46 => ?_)
          refine X_dup rfl rfl rfl ?_
          refine X_kIH_U (k1 := kb4 + 625) (n1 := nb4 + 11764) (M' := M_X10_init) (nA := 0) (As := []) (st := [.ref h40.1, .ref h.1]) (b := h40.1) rfl rfl (by decide +kernel) rfl rfl rfl (by show kb4 + 617 + 8 = kb4 + 625; omega) (by show nb4 + 11728 + 36 = nb4 + 11764; omega) (X_ble (by show kb4 + 625 ≤ 600086; omega)) (X_ble (by show nb4 + 11764 ≤ 7301442; omega)) (fun _ e => ct_X10_init  e) (fun h50 => ?_)
          refine X_kS_I (k1 := kb4 + 644) (n1 := nb4 + 11878) (M' := M_L_agrees) (nA := 2) (As := [.ref h.1, .ref h40.1]) (st := []) rfl rfl (by decide +kernel) rfl rfl rfl (by show kb4 + 625 + 19 = kb4 + 644; omega) (by show nb4 + 11764 + 114 = nb4 + 11878; omega) (X_ble (by show kb4 + 644 ≤ 600086; omega)) (X_ble (by show nb4 + 11878 ≤ 7301442; omega)) (fun _ _ e => ct_L_agrees hl  e) (fun y53 => ?_)
          refine X_bif_eq rfl rfl (fun _ => ?_) (fun _ => ?_)
          · refine X_wid (k' := kb4 + 653) (n' := nb4 + 11932) (by omega) (by omega) ?_
            exact X_sub (g_sub_s (g_sub_n (g_sub_s (g_sub_s (g_sub_s (g_sub_s (g_sub_n (g_sub_n (g_sub_n (g_sub_n (g_sub_n (g_sub_n (g_sub_n (g_sub_n (g_sub_n (g_sub_n (g_sub_n (g_sub_n (g_sub_n (g_sub_n (g_sub_n (g_sub_n (g_sub_n (g_sub_n (g_sub_n g_sub_0))))))))))))))))))))))))) (b_L_law_b196 hl hX hret hkb4 hnb4 (ih _ _ (by omega) (by omega)) _ _ _ _ _)
          · refine X_aload_n rfl rfl rfl ?_
            refine X_callV_IR (M' := M_X7_errorOffset) (nA := 0) (As := []) (st := []) (b := h.1) (ci := 7) rfl rfl (by decide +kernel) rfl rfl rfl rfl rfl rfl (X_ble (by show kb4 + 644 ≤ 600086; omega)) (X_ble (by show nb4 + 11878 ≤ 7301442; omega)) (fun _ e => ct_X7_errorOffset  e) (fun v60 => ?_)
            refine X_iconst (v := -1) rfl rfl (by decide) ?_
            refine X_bicmp_ne rfl rfl (fun _ => ?_) (fun _ => ?_)
            · refine X_aload_n rfl rfl rfl ?_
              refine X_kV_I (k1 := kb4 + 644) (n1 := nb4 + 11878) (M' := M_X7_undo) (nA := 0) (As := []) (st := []) (b := h.1) (ci := 7) rfl rfl (by decide +kernel) rfl rfl rfl rfl (by show kb4 + 644 + 0 = kb4 + 644; omega) (by show nb4 + 11878 + 0 = nb4 + 11878; omega) (X_ble (by show kb4 + 644 ≤ 600086; omega)) (X_ble (by show nb4 + 11878 ≤ 7301442; omega)) (fun _ _ e => ct_X7_undo  e) (fun y68 => ?_)
              refine X_iconst (v := -1) rfl rfl (by decide) ?_
              refine X_bicmp_ne rfl rfl (fun _ => ?_) (fun _ => ?_)
              · refine X_aload_n rfl rfl rfl ?_
                refine X_iconst (v := 0) rfl rfl (by decide) ?_
                refine X_kY_I (k1 := kb4 + 645) (n1 := nb4 + 11884) (M' := M_L_cancel) (nA := 2) (As := [.ref h.1, .int 0]) (st := []) rfl rfl (by decide +kernel) rfl rfl rfl (by show kb4 + 644 + 1 = kb4 + 645; omega) (by show nb4 + 11878 + 6 = nb4 + 11884; omega) (X_ble (by show kb4 + 645 ≤ 600086; omega)) (X_ble (by show nb4 + 11884 ≤ 7301442; omega)) (fun _ _ e => cy_L_cancel hl  e) (fun y77 => ?_)
                refine X_ldc (v := -2000000097) rfl rfl (by decide +kernel) ?_
                refine X_bicmp_ne rfl rfl (fun _ => ?_) (fun _ => ?_)
                · refine X_aload_n rfl rfl rfl ?_
                  refine X_bipush (v := 101) rfl rfl (by decide) ?_
                  refine X_kY_I (k1 := kb4 + 646) (n1 := nb4 + 11890) (M' := M_L_pass) (nA := 2) (As := [.ref h.1, .int 101]) (st := []) rfl rfl (by decide +kernel) rfl rfl rfl (by show kb4 + 645 + 1 = kb4 + 646; omega) (by show nb4 + 11884 + 6 = nb4 + 11890; omega) (X_ble (by show kb4 + 646 ≤ 600086; omega)) (X_ble (by show nb4 + 11890 ≤ 7301442; omega)) (fun _ _ e => cy_L_pass hl  e) (fun y88 => ?_)
                  refine X_ldc (v := -2000000098) rfl rfl (by decide +kernel) ?_
                  refine X_bicmp_ne rfl rfl (fun _ => ?_) (fun _ => ?_)
                  · refine X_aload_n rfl rfl rfl ?_
                    refine X_iconst (v := 2) rfl rfl (by decide) ?_
                    refine X_iconst (v := 0) rfl rfl (by decide) ?_
                    refine X_iconst (v := 1) rfl rfl (by decide) ?_
                    refine X_kY_I (k1 := kb4 + 647) (n1 := nb4 + 11896) (M' := M_L_send) (nA := 4) (As := [.ref h.1, .int 2, .int 0, .int 1]) (st := []) rfl rfl (by decide +kernel) rfl rfl rfl (by show kb4 + 646 + 1 = kb4 + 647; omega) (by show nb4 + 11890 + 6 = nb4 + 11896; omega) (X_ble (by show kb4 + 647 ≤ 600086; omega)) (X_ble (by show nb4 + 11896 ≤ 7301442; omega)) (fun _ _ e => cy_L_send hl  e) (fun y100 => ?_)
                    refine X_ldc (v := -2000000097) rfl rfl (by decide +kernel) ?_
                    refine X_bicmp_ne rfl rfl (fun _ => ?_) (fun _ => ?_)
                    · refine X_aload_n rfl rfl rfl ?_
                      refine X_iconst (v := 0) rfl rfl (by decide) ?_
                      refine X_iconst (v := 0) rfl rfl (by decide) ?_
                      refine X_iconst (v := 1) rfl rfl (by decide) ?_
                      refine X_kY_I (k1 := kb4 + 648) (n1 := nb4 + 11902) (M' := M_L_send) (nA := 4) (As := [.ref h.1, .int 0, .int 0, .int 1]) (st := []) rfl rfl (by decide +kernel) rfl rfl rfl (by show kb4 + 647 + 1 = kb4 + 648; omega) (by show nb4 + 11896 + 6 = nb4 + 11902; omega) (X_ble (by show kb4 + 648 ≤ 600086; omega)) (X_ble (by show nb4 + 11902 ≤ 7301442; omega)) (fun _ _ e => cy_L_send hl  e) (fun y112 => ?_)
                      refine X_ldc (v := -2000000098) rfl rfl (by decide +kernel) ?_
                      refine X_bicmp_ne rfl rfl (fun _ => ?_) (fun _ => ?_)
                      · refine X_aload_n rfl rfl rfl ?_
                        refine X_iconst (v := 5) rfl rfl (by decide) ?_
                        refine X_iconst (v := 4) rfl rfl (by decide) ?_
                        refine X_iconst (v := 0) rfl rfl (by decide) ?_
                        refine X_kY_I (k1 := kb4 + 649) (n1 := nb4 + 11908) (M' := M_L_fog) (nA := 4) (As := [.ref h.1, .int 5, .int 4, .int 0]) (st := []) rfl rfl (by decide +kernel) rfl rfl rfl (by show kb4 + 648 + 1 = kb4 + 649; omega) (by show nb4 + 11902 + 6 = nb4 + 11908; omega) (X_ble (by show kb4 + 649 ≤ 600086; omega)) (X_ble (by show nb4 + 11908 ≤ 7301442; omega)) (fun _ _ e => cy_L_fog hl  e) (fun y124 => ?_)
                        refine X_ldc (v := -2000000098) rfl rfl (by decide +kernel) ?_
                        refine X_bicmp_ne rfl rfl (fun _ => ?_) (fun _ => ?_)
                        · refine X_aload_n rfl rfl rfl ?_
                          refine X_iconst (v := 0) rfl rfl (by decide) ?_
                          refine X_bipush (v := 26) rfl rfl (by decide) ?_
                          refine X_kY_I (k1 := kb4 + 650) (n1 := nb4 + 11914) (M' := M_L_relieve) (nA := 3) (As := [.ref h.1, .int 0, .int 26]) (st := []) rfl rfl (by decide +kernel) rfl rfl rfl (by show kb4 + 649 + 1 = kb4 + 650; omega) (by show nb4 + 11908 + 6 = nb4 + 11914; omega) (X_ble (by show kb4 + 650 ≤ 600086; omega)) (X_ble (by show nb4 + 11914 ≤ 7301442; omega)) (fun _ _ e => cy_L_relieve hl  e) (fun y136 => ?_)
                          refine X_ldc (v := -2000000098) rfl rfl (by decide +kernel) ?_
                          refine X_bicmp_ne rfl rfl (fun _ => ?_) (fun _ => ?_)
                          · refine X_aload_n rfl rfl rfl ?_
                            refine X_iconst (v := 1) rfl rfl (by decide) ?_
                            refine X_bipush (v := 7) rfl rfl (by decide) ?_
                            refine X_kY_I (k1 := kb4 + 651) (n1 := nb4 + 11920) (M' := M_L_relieve) (nA := 3) (As := [.ref h.1, .int 1, .int 7]) (st := []) rfl rfl (by decide +kernel) rfl rfl rfl (by show kb4 + 650 + 1 = kb4 + 651; omega) (by show nb4 + 11914 + 6 = nb4 + 11920; omega) (X_ble (by show kb4 + 651 ≤ 600086; omega)) (X_ble (by show nb4 + 11920 ≤ 7301442; omega)) (fun _ _ e => cy_L_relieve hl  e) (fun y148 => ?_)
                            refine X_bif_ne rfl rfl (fun _ => ?_) (fun _ => ?_)
                            · refine X_aload_n rfl rfl rfl ?_
                              refine X_iconst (v := 1) rfl rfl (by decide) ?_
                              refine X_bipush (v := 9) rfl rfl (by decide) ?_
                              refine X_kY_I (k1 := kb4 + 652) (n1 := nb4 + 11926) (M' := M_L_relieve) (nA := 3) (As := [.ref h.1, .int 1, .int 9]) (st := []) rfl rfl (by decide +kernel) rfl rfl rfl (by show kb4 + 651 + 1 = kb4 + 652; omega) (by show nb4 + 11920 + 6 = nb4 + 11926; omega) (X_ble (by show kb4 + 652 ≤ 600086; omega)) (X_ble (by show nb4 + 11926 ≤ 7301442; omega)) (fun _ _ e => cy_L_relieve hl  e) (fun y158 => ?_)
                              refine X_bipush (v := 7) rfl rfl (by decide) ?_
                              refine X_bicmp_ne rfl rfl (fun _ => ?_) (fun _ => ?_)
                              · refine X_aload_n rfl rfl rfl ?_
                                refine X_iconst (v := 1) rfl rfl (by decide) ?_
                                refine X_iconst (v := 0) rfl rfl (by decide) ?_
                                refine X_kY_I (k1 := kb4 + 653) (n1 := nb4 + 11932) (M' := M_L_key) (nA := 3) (As := [.ref h.1, .int 1, .int 0]) (st := []) rfl rfl (by decide +kernel) rfl rfl rfl (by show kb4 + 652 + 1 = kb4 + 653; omega) (by show nb4 + 11926 + 6 = nb4 + 11932; omega) (X_ble (by show kb4 + 653 ≤ 600086; omega)) (X_ble (by show nb4 + 11932 ≤ 7301442; omega)) (fun _ _ e => cy_L_key hl  e) (fun y169 => ?_)
                                refine X_bipush (v := 9) rfl rfl (by decide) ?_
                                refine X_bicmp_ne rfl rfl (fun _ => ?_) (fun _ => ?_)
                                · refine X_aload_n rfl rfl rfl ?_
                                  refine X_kV_I (k1 := kb4 + 653) (n1 := nb4 + 11932) (M' := M_X7_undo) (nA := 0) (As := []) (st := []) (b := h.1) (ci := 7) rfl rfl (by decide +kernel) rfl rfl rfl rfl (by show kb4 + 653 + 0 = kb4 + 653; omega) (by show nb4 + 11932 + 0 = nb4 + 11932; omega) (X_ble (by show kb4 + 653 ≤ 600086; omega)) (X_ble (by show nb4 + 11932 ≤ 7301442; omega)) (fun _ _ e => ct_X7_undo  e) (fun y178 => ?_)
                                  refine X_iconst (v := 1) rfl rfl (by decide) ?_
                                  refine X_bicmp_ne rfl rfl (fun _ => ?_) (fun _ => ?_)
                                  · refine X_aload_n rfl rfl rfl ?_
                                    refine X_kV_I (k1 := kb4 + 653) (n1 := nb4 + 11932) (M' := M_X7_undo) (nA := 0) (As := []) (st := []) (b := h.1) (ci := 7) rfl rfl (by decide +kernel) rfl rfl rfl rfl (by show kb4 + 653 + 0 = kb4 + 653; omega) (by show nb4 + 11932 + 0 = nb4 + 11932; omega) (X_ble (by show kb4 + 653 ≤ 600086; omega)) (X_ble (by show nb4 + 11932 ≤ 7301442; omega)) (fun _ _ e => ct_X7_undo  e) (fun y186 => ?_)
                                    refine X_bif_ne rfl rfl (fun _ => ?_) (fun _ => ?_)
                                    · refine X_iconst (v := 1) rfl rfl (by decide) ?_
                                      refine X_goto rfl rfl ?_
                                      exact X_sub (g_sub_s (g_sub_n (g_sub_s (g_sub_s (g_sub_s (g_sub_s (g_sub_n (g_sub_n (g_sub_n (g_sub_n (g_sub_n (g_sub_n (g_sub_n (g_sub_n (g_sub_n (g_sub_n (g_sub_n (g_sub_n (g_sub_n (g_sub_n (g_sub_n (g_sub_n (g_sub_n (g_sub_n (g_sub_n g_sub_0))))))))))))))))))))))))) (b_L_law_b197 hl hX hret hkb4 hnb4 (ih _ _ (by omega) (by omega)) _ _ _ _ _ _)
                                    · exact X_sub (g_sub_s (g_sub_n (g_sub_s (g_sub_s (g_sub_s (g_sub_s (g_sub_n (g_sub_n (g_sub_n (g_sub_n (g_sub_n (g_sub_n (g_sub_n (g_sub_n (g_sub_n (g_sub_n (g_sub_n (g_sub_n (g_sub_n (g_sub_n (g_sub_n (g_sub_n (g_sub_n (g_sub_n (g_sub_n g_sub_0))))))))))))))))))))))))) (b_L_law_b196 hl hX hret hkb4 hnb4 (ih _ _ (by omega) (by omega)) _ _ _ _ _)
                                  · exact X_sub (g_sub_s (g_sub_n (g_sub_s (g_sub_s (g_sub_s (g_sub_s (g_sub_n (g_sub_n (g_sub_n (g_sub_n (g_sub_n (g_sub_n (g_sub_n (g_sub_n (g_sub_n (g_sub_n (g_sub_n (g_sub_n (g_sub_n (g_sub_n (g_sub_n (g_sub_n (g_sub_n (g_sub_n (g_sub_n g_sub_0))))))))))))))))))))))))) (b_L_law_b196 hl hX hret hkb4 hnb4 (ih _ _ (by omega) (by omega)) _ _ _ _ _)
                                · exact X_sub (g_sub_s (g_sub_n (g_sub_s (g_sub_s (g_sub_s (g_sub_s (g_sub_n (g_sub_n (g_sub_n (g_sub_n (g_sub_n (g_sub_n (g_sub_n (g_sub_n (g_sub_n (g_sub_n (g_sub_n (g_sub_n (g_sub_n (g_sub_n (g_sub_n (g_sub_n (g_sub_n (g_sub_n (g_sub_n g_sub_0))))))))))))))))))))))))) (b_L_law_b196 hl hX hret hkb4 hnb4 (ih _ _ (by omega) (by omega)) _ _ _ _ _)
                              · refine X_wid (k' := kb4 + 653) (n' := nb4 + 11932) (by omega) (by omega) ?_
                                exact X_sub (g_sub_s (g_sub_n (g_sub_s (g_sub_s (g_sub_s (g_sub_s (g_sub_n (g_sub_n (g_sub_n (g_sub_n (g_sub_n (g_sub_n (g_sub_n (g_sub_n (g_sub_n (g_sub_n (g_sub_n (g_sub_n (g_sub_n (g_sub_n (g_sub_n (g_sub_n (g_sub_n (g_sub_n (g_sub_n g_sub_0))))))))))))))))))))))))) (b_L_law_b196 hl hX hret hkb4 hnb4 (ih _ _ (by omega) (by omega)) _ _ _ _ _)
                            · refine X_wid (k' := kb4 + 653) (n' := nb4 + 11932) (by omega) (by omega) ?_
                              exact X_sub (g_sub_s (g_sub_n (g_sub_s (g_sub_s (g_sub_s (g_sub_s (g_sub_n (g_sub_n (g_sub_n (g_sub_n (g_sub_n (g_sub_n (g_sub_n (g_sub_n (g_sub_n (g_sub_n (g_sub_n (g_sub_n (g_sub_n (g_sub_n (g_sub_n (g_sub_n (g_sub_n (g_sub_n (g_sub_n g_sub_0))))))))))))))))))))))))) (b_L_law_b196 hl hX hret hkb4 hnb4 (ih _ _ (by omega) (by omega)) _ _ _ _ _)
                          · refine X_wid (k' := kb4 + 653) (n' := nb4 + 11932) (by omega) (by omega) ?_
                            exact X_sub (g_sub_s (g_sub_n (g_sub_s (g_sub_s (g_sub_s (g_sub_s (g_sub_n (g_sub_n (g_sub_n (g_sub_n (g_sub_n (g_sub_n (g_sub_n (g_sub_n (g_sub_n (g_sub_n (g_sub_n (g_sub_n (g_sub_n (g_sub_n (g_sub_n (g_sub_n (g_sub_n (g_sub_n (g_sub_n g_sub_0))))))))))))))))))))))))) (b_L_law_b196 hl hX hret hkb4 hnb4 (ih _ _ (by omega) (by omega)) _ _ _ _ _)
                        · refine X_wid (k' := kb4 + 653) (n' := nb4 + 11932) (by omega) (by omega) ?_
                          exact X_sub (g_sub_s (g_sub_n (g_sub_s (g_sub_s (g_sub_s (g_sub_s (g_sub_n (g_sub_n (g_sub_n (g_sub_n (g_sub_n (g_sub_n (g_sub_n (g_sub_n (g_sub_n (g_sub_n (g_sub_n (g_sub_n (g_sub_n (g_sub_n (g_sub_n (g_sub_n (g_sub_n (g_sub_n (g_sub_n g_sub_0))))))))))))))))))))))))) (b_L_law_b196 hl hX hret hkb4 hnb4 (ih _ _ (by omega) (by omega)) _ _ _ _ _)
                      · refine X_wid (k' := kb4 + 653) (n' := nb4 + 11932) (by omega) (by omega) ?_
                        exact X_sub (g_sub_s (g_sub_n (g_sub_s (g_sub_s (g_sub_s (g_sub_s (g_sub_n (g_sub_n (g_sub_n (g_sub_n (g_sub_n (g_sub_n (g_sub_n (g_sub_n (g_sub_n (g_sub_n (g_sub_n (g_sub_n (g_sub_n (g_sub_n (g_sub_n (g_sub_n (g_sub_n (g_sub_n (g_sub_n g_sub_0))))))))))))))))))))))))) (b_L_law_b196 hl hX hret hkb4 hnb4 (ih _ _ (by omega) (by omega)) _ _ _ _ _)
                    · refine X_wid (k' := kb4 + 653) (n' := nb4 + 11932) (by omega) (by omega) ?_
                      exact X_sub (g_sub_s (g_sub_n (g_sub_s (g_sub_s (g_sub_s (g_sub_s (g_sub_n (g_sub_n (g_sub_n (g_sub_n (g_sub_n (g_sub_n (g_sub_n (g_sub_n (g_sub_n (g_sub_n (g_sub_n (g_sub_n (g_sub_n (g_sub_n (g_sub_n (g_sub_n (g_sub_n (g_sub_n (g_sub_n g_sub_0))))))))))))))))))))))))) (b_L_law_b196 hl hX hret hkb4 hnb4 (ih _ _ (by omega) (by omega)) _ _ _ _ _)
                  · refine X_wid (k' := kb4 + 653) (n' := nb4 + 11932) (by omega) (by omega) ?_
                    exact X_sub (g_sub_s (g_sub_n (g_sub_s (g_sub_s (g_sub_s (g_sub_s (g_sub_n (g_sub_n (g_sub_n (g_sub_n (g_sub_n (g_sub_n (g_sub_n (g_sub_n (g_sub_n (g_sub_n (g_sub_n (g_sub_n (g_sub_n (g_sub_n (g_sub_n (g_sub_n (g_sub_n (g_sub_n (g_sub_n g_sub_0))))))))))))))))))))))))) (b_L_law_b196 hl hX hret hkb4 hnb4 (ih _ _ (by omega) (by omega)) _ _ _ _ _)
                · refine X_wid (k' := kb4 + 653) (n' := nb4 + 11932) (by omega) (by omega) ?_
                  exact X_sub (g_sub_s (g_sub_n (g_sub_s (g_sub_s (g_sub_s (g_sub_s (g_sub_n (g_sub_n (g_sub_n (g_sub_n (g_sub_n (g_sub_n (g_sub_n (g_sub_n (g_sub_n (g_sub_n (g_sub_n (g_sub_n (g_sub_n (g_sub_n (g_sub_n (g_sub_n (g_sub_n (g_sub_n (g_sub_n g_sub_0))))))))))))))))))))))))) (b_L_law_b196 hl hX hret hkb4 hnb4 (ih _ _ (by omega) (by omega)) _ _ _ _ _)
              · refine X_wid (k' := kb4 + 653) (n' := nb4 + 11932) (by omega) (by omega) ?_
                exact X_sub (g_sub_s (g_sub_n (g_sub_s (g_sub_s (g_sub_s (g_sub_s (g_sub_n (g_sub_n (g_sub_n (g_sub_n (g_sub_n (g_sub_n (g_sub_n (g_sub_n (g_sub_n (g_sub_n (g_sub_n (g_sub_n (g_sub_n (g_sub_n (g_sub_n (g_sub_n (g_sub_n (g_sub_n (g_sub_n g_sub_0))))))))))))))))))))))))) (b_L_law_b196 hl hX hret hkb4 hnb4 (ih _ _ (by omega) (by omega)) _ _ _ _ _)
            · refine X_wid (k' := kb4 + 653) (n' := nb4 + 11932) (by omega) (by omega) ?_
              exact X_sub (g_sub_s (g_sub_n (g_sub_s (g_sub_s (g_sub_s (g_sub_s (g_sub_n (g_sub_n (g_sub_n (g_sub_n (g_sub_n (g_sub_n (g_sub_n (g_sub_n (g_sub_n (g_sub_n (g_sub_n (g_sub_n (g_sub_n (g_sub_n (g_sub_n (g_sub_n (g_sub_n (g_sub_n (g_sub_n g_sub_0))))))))))))))))))))))))) (b_L_law_b196 hl hX hret hkb4 hnb4 (ih _ _ (by omega) (by omega)) _ _ _ _ _)
      · refine X_iload_n rfl rfl rfl ?_
        exact hret _ _ _ _ _ _ (by decide +kernel) (by show kb4 ≤ 600086; omega) (by show nb4 ≤ 7301442; omega)
    · refine X_iload_n rfl rfl rfl ?_
      exact hret _ _ _ _ _ _ (by decide +kernel) (by show kb4 ≤ 600086; omega) (by show nb4 ≤ 7301442; omega)
set_option maxRecDepth 100000 in
theorem gx_L_law {l : Launch} {G : gG} (hl : l.stackTraces = false) {Q : State → Array Value → List Frame → Prop} {Z : State → Prop} {b N : Nat} {xs : Nat → Int32} (hX : g_scr G Q b N xs) (hret : ∀ (pc : Nat) (L : List (Option Value)) (h : gH) (k n : Nat) (v : Int32), decode code pc = .ok (.ireturn, 1) → k ≤ 600086 → n ≤ 7301442 → GX l G M_L_law (g_phS Q Z) k n pc L [.int v] h (some (v, h))) (h : gH) : GX l G M_L_law (g_phS Q Z) 0 0 0 [some (.ref b), none, none, none, none, none, none, none, none, none, none, none, none, none, none, none, none, none, none, none, none, none, none, none, none] [] h (f_L_law G xs N h) := by
  unfold f_L_law
  refine X_iconst (v := 1) rfl rfl (by decide) ?_
  refine X_istore_n rfl rfl rfl rfl ?_
  refine X_iconst (v := 0) rfl rfl (by decide) ?_
  refine X_istore_n rfl rfl rfl rfl ?_
  exact X_sub (g_sub_s (g_sub_s (g_sub_s (g_sub_n (g_sub_n (g_sub_n (g_sub_n (g_sub_n (g_sub_n (g_sub_n (g_sub_n (g_sub_n (g_sub_n (g_sub_n (g_sub_n (g_sub_n (g_sub_n (g_sub_n (g_sub_n (g_sub_n (g_sub_n (g_sub_n (g_sub_n (g_sub_n (g_sub_n g_sub_0))))))))))))))))))))))))) (b_L_law_b4 hl hX hret 3 _ _ (by omega) (by omega) _ _ _)
