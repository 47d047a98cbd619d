set_option maxRecDepth 100000 in
theorem b_L_law_b1364 {l : Launch} {G : gG} (hl : l.stackTraces = false) {Q : State → Array Value → List Frame → Prop} {Z : State → Prop} {b N : Nat} {xs : Nat → Int32} (hX : g_scr G Q b N xs) (hret : ∀ (pc : Nat) (L : List (Option Value)) (h : gH) (k n : Nat) (v : Int32), decode code pc = .ok (.ireturn, 1) → k ≤ 600086 → n ≤ 7301442 → GX l G M_L_law (g_phS Q Z) k n pc L [.int v] h (some (v, h))) {kb4 nb4 : Nat} {K4 : gH → Int32 → Int32 → Option (Int32 × gH)} (hkb4 : kb4 + 9458 ≤ 28374) (hnb4 : nb4 + 56546 ≤ 169638) (hK4 : ∀ (h : gH) (l1 : Int32) (l2 : Int32), GX l G M_L_law (g_phS Q Z) (kb4 + 9458) (nb4 + 56546) 4 [some (.ref b), some (.int l1), some (.int l2), none, none, none, none, none, none, none, none, none, none, none, none, none, none, none, none, none, none, none, none, none, none] [] h (K4 h l1 l2)) (h : gH) (l2 : Int32) (s0 : Int32) : GX l G M_L_law (g_phS Q Z) (kb4 + 9458) (nb4 + 56546) 1364 [some (.ref b), none, some (.int l2), none, none, none, none, none, none, none, none, none, none, none, none, none, none, none, none, none, none, none, none, none, none] [.int s0] h (f_L_law_b1364 G xs N K4 h l2 s0) := by
  unfold f_L_law_b1364
  refine X_istore_n rfl rfl rfl rfl ?_
  refine X_iinc (v := l2 + 1) rfl rfl rfl (congrArg (fun z => l2 + z) (by decide : Int32.ofInt 1 = 1)) rfl ?_
  refine X_goto rfl rfl ?_
  refine X_wid (k' := kb4 + 9458) (n' := nb4 + 56546) (by omega) (by omega) ?_
  exact X_sub (g_sub_s (g_sub_s (g_sub_s (g_sub_n (g_sub_n (g_sub_n (g_sub_n (g_sub_n (g_sub_n (g_sub_n (g_sub_n (g_sub_n (g_sub_n (g_sub_n (g_sub_n (g_sub_n (g_sub_n (g_sub_n (g_sub_n (g_sub_n (g_sub_n (g_sub_n (g_sub_n (g_sub_n (g_sub_n g_sub_0))))))))))))))))))))))))) (hK4 _ _ _)
set_option maxRecDepth 100000 in
theorem b_L_law_b1363 {l : Launch} {G : gG} (hl : l.stackTraces = false) {Q : State → Array Value → List Frame → Prop} {Z : State → Prop} {b N : Nat} {xs : Nat → Int32} (hX : g_scr G Q b N xs) (hret : ∀ (pc : Nat) (L : List (Option Value)) (h : gH) (k n : Nat) (v : Int32), decode code pc = .ok (.ireturn, 1) → k ≤ 600086 → n ≤ 7301442 → GX l G M_L_law (g_phS Q Z) k n pc L [.int v] h (some (v, h))) {kb4 nb4 : Nat} {K4 : gH → Int32 → Int32 → Option (Int32 × gH)} (hkb4 : kb4 + 9458 ≤ 28374) (hnb4 : nb4 + 56546 ≤ 169638) (hK4 : ∀ (h : gH) (l1 : Int32) (l2 : Int32), GX l G M_L_law (g_phS Q Z) (kb4 + 9458) (nb4 + 56546) 4 [some (.ref b), some (.int l1), some (.int l2), none, none, none, none, none, none, none, none, none, none, none, none, none, none, none, none, none, none, none, none, none, none] [] h (K4 h l1 l2)) (h : gH) (l2 : Int32) : GX l G M_L_law (g_phS Q Z) (kb4 + 9458) (nb4 + 56546) 1363 [some (.ref b), none, some (.int l2), none, none, none, none, none, none, none, none, none, none, none, none, none, none, none, none, none, none, none, none, none, none] [] h (f_L_law_b1363 G xs N K4 h l2) := by
  unfold f_L_law_b1363
  refine X_iconst (v := 0) rfl rfl (by decide) ?_
  exact X_sub (g_sub_s (g_sub_n (g_sub_s (g_sub_n (g_sub_n (g_sub_n (g_sub_n (g_sub_n (g_sub_n (g_sub_n (g_sub_n (g_sub_n (g_sub_n (g_sub_n (g_sub_n (g_sub_n (g_sub_n (g_sub_n (g_sub_n (g_sub_n (g_sub_n (g_sub_n (g_sub_n (g_sub_n (g_sub_n g_sub_0))))))))))))))))))))))))) (b_L_law_b1364 hl hX hret hkb4 hnb4 hK4 _ _ _)
set_option maxRecDepth 100000 in
theorem b_L_law_b1277 {l : Launch} {G : gG} (hl : l.stackTraces = false) {Q : State → Array Value → List Frame → Prop} {Z : State → Prop} {b N : Nat} {xs : Nat → Int32} (hX : g_scr G Q b N xs) (hret : ∀ (pc : Nat) (L : List (Option Value)) (h : gH) (k n : Nat) (v : Int32), decode code pc = .ok (.ireturn, 1) → k ≤ 600086 → n ≤ 7301442 → GX l G M_L_law (g_phS Q Z) k n pc L [.int v] h (some (v, h))) {kb4 nb4 : Nat} {K4 : gH → Int32 → Int32 → Option (Int32 × gH)} (hkb4 : kb4 + 9458 ≤ 28374) (hnb4 : nb4 + 56546 ≤ 169638) (hK4 : ∀ (h : gH) (l1 : Int32) (l2 : Int32), GX l G M_L_law (g_phS Q Z) (kb4 + 9458) (nb4 + 56546) 4 [some (.ref b), some (.int l1), some (.int l2), none, none, none, none, none, none, none, none, none, none, none, none, none, none, none, none, none, none, none, none, none, none] [] h (K4 h l1 l2)) (h : gH) (l1 : Int32) (l2 : Int32) (l3 : Nat) : GX l G M_L_law (g_phS Q Z) (kb4 + 9451) (nb4 + 56503) 1277 [some (.ref b), some (.int l1), some (.int l2), some (.ref l3), none, none, none, none, none, none, none, none, none, none, none, none, none, none, none, none, none, none, none, none, none] [] h (f_L_law_b1277 G xs N K4 h l1 l2 l3) := by
  unfold f_L_law_b1277
  refine X_iload_n rfl rfl rfl ?_
  refine X_bif_eq rfl rfl (fun _ => ?_) (fun _ => ?_)
  · refine X_wid (k' := kb4 + 9458) (n' := nb4 + 56546) (by omega) (by omega) ?_
    exact X_sub (g_sub_s (g_sub_n (g_sub_s (g_sub_n (g_sub_n (g_sub_n (g_sub_n (g_sub_n (g_sub_n (g_sub_n (g_sub_n (g_sub_n (g_sub_n (g_sub_n (g_sub_n (g_sub_n (g_sub_n (g_sub_n (g_sub_n (g_sub_n (g_sub_n (g_sub_n (g_sub_n (g_sub_n (g_sub_n g_sub_0))))))))))))))))))))))))) (b_L_law_b1363 hl hX hret hkb4 hnb4 hK4 _ _)
  · refine X_aload_n rfl rfl rfl ?_
    refine X_sipush (v := 501) rfl rfl (by decide) ?_
    refine X_kY_I (k1 := kb4 + 9452) (n1 := nb4 + 56510) (M' := M_L_load) (nA := 2) (As := [.ref l3, .int 501]) (st := []) rfl rfl (by decide +kernel) rfl rfl rfl (by show kb4 + 9451 + 1 = kb4 + 9452; omega) (by show nb4 + 56503 + 7 = nb4 + 56510; omega) (X_ble (by show kb4 + 9452 ≤ 600086; omega)) (X_ble (by show nb4 + 56510 ≤ 7301442; omega)) (fun _ _ e => cy_L_load hl  e) (fun y1285 => ?_)
    refine X_ldc (v := -2000000098) rfl rfl (by decide +kernel) ?_
    refine X_bicmp_ne rfl rfl (fun _ => ?_) (fun _ => ?_)
    · refine X_aload_n rfl rfl rfl ?_
      refine X_iconst (v := 3) rfl rfl (by decide) ?_
      refine X_kY_I (k1 := kb4 + 9453) (n1 := nb4 + 56516) (M' := M_L_foretold) (nA := 2) (As := [.ref l3, .int 3]) (st := []) rfl rfl (by decide +kernel) rfl rfl rfl (by show kb4 + 9452 + 1 = kb4 + 9453; omega) (by show nb4 + 56510 + 6 = nb4 + 56516; omega) (X_ble (by show kb4 + 9453 ≤ 600086; omega)) (X_ble (by show nb4 + 56516 ≤ 7301442; omega)) (fun _ _ e => cy_L_foretold hl  e) (fun y1295 => ?_)
      refine X_ldc (v := -2000000098) rfl rfl (by decide +kernel) ?_
      refine X_bicmp_ne rfl rfl (fun _ => ?_) (fun _ => ?_)
      · refine X_aload_n rfl rfl rfl ?_
        refine X_iconst (v := 2) rfl rfl (by decide) ?_
        refine X_kY_I (k1 := kb4 + 9454) (n1 := nb4 + 56522) (M' := M_L_leastPower) (nA := 2) (As := [.ref l3, .int 2]) (st := []) rfl rfl (by decide +kernel) rfl rfl rfl (by show kb4 + 9453 + 1 = kb4 + 9454; omega) (by show nb4 + 56516 + 6 = nb4 + 56522; omega) (X_ble (by show kb4 + 9454 ≤ 600086; omega)) (X_ble (by show nb4 + 56522 ≤ 7301442; omega)) (fun _ _ e => cy_L_leastPower hl  e) (fun y1305 => ?_)
        refine X_ldc (v := -2000000097) rfl rfl (by decide +kernel) ?_
        refine X_bicmp_ne rfl rfl (fun _ => ?_) (fun _ => ?_)
        · refine X_aload_n rfl rfl rfl ?_
          refine X_sipush (v := 20001) rfl rfl (by decide) ?_
          refine X_kY_I (k1 := kb4 + 9455) (n1 := nb4 + 56528) (M' := M_L_mist) (nA := 2) (As := [.ref l3, .int 20001]) (st := []) rfl rfl (by decide +kernel) rfl rfl rfl (by show kb4 + 9454 + 1 = kb4 + 9455; omega) (by show nb4 + 56522 + 6 = nb4 + 56528; omega) (X_ble (by show kb4 + 9455 ≤ 600086; omega)) (X_ble (by show nb4 + 56528 ≤ 7301442; omega)) (fun _ _ e => cy_L_mist hl  e) (fun y1317 => ?_)
          refine X_ldc (v := -2000000098) rfl rfl (by decide +kernel) ?_
          refine X_bicmp_ne rfl rfl (fun _ => ?_) (fun _ => ?_)
          · refine X_aload_n rfl rfl rfl ?_
            refine X_iconst (v := 2) rfl rfl (by decide) ?_
            refine X_iconst (v := 0) rfl rfl (by decide) ?_
            refine X_kY_I (k1 := kb4 + 9456) (n1 := nb4 + 56534) (M' := M_L_key) (nA := 3) (As := [.ref l3, .int 2, .int 0]) (st := []) rfl rfl (by decide +kernel) rfl rfl rfl (by show kb4 + 9455 + 1 = kb4 + 9456; omega) (by show nb4 + 56528 + 6 = nb4 + 56534; omega) (X_ble (by show kb4 + 9456 ≤ 600086; omega)) (X_ble (by show nb4 + 56534 ≤ 7301442; omega)) (fun _ _ e => cy_L_key hl  e) (fun y1328 => ?_)
            refine X_ldc (v := -2000000097) rfl rfl (by decide +kernel) ?_
            refine X_bicmp_ne rfl rfl (fun _ => ?_) (fun _ => ?_)
            · refine X_aload_n rfl rfl rfl ?_
              refine X_iconst (v := 0) rfl rfl (by decide) ?_
              refine X_bipush (v := 6) rfl rfl (by decide) ?_
              refine X_kY_I (k1 := kb4 + 9457) (n1 := nb4 + 56540) (M' := M_L_channel) (nA := 3) (As := [.ref l3, .int 0, .int 6]) (st := []) rfl rfl (by decide +kernel) rfl rfl rfl (by show kb4 + 9456 + 1 = kb4 + 9457; omega) (by show nb4 + 56534 + 6 = nb4 + 56540; omega) (X_ble (by show kb4 + 9457 ≤ 600086; omega)) (X_ble (by show nb4 + 56540 ≤ 7301442; omega)) (fun _ _ e => cy_L_channel hl  e) (fun y1340 => ?_)
              refine X_ldc (v := -2000000098) rfl rfl (by decide +kernel) ?_
              refine X_bicmp_ne rfl rfl (fun _ => ?_) (fun _ => ?_)
              · refine X_aload_n rfl rfl rfl ?_
                refine X_iconst (v := -1) rfl rfl (by decide) ?_
                refine X_iconst (v := 0) rfl rfl (by decide) ?_
                refine X_kY_I (k1 := kb4 + 9458) (n1 := nb4 + 56546) (M' := M_L_why) (nA := 3) (As := [.ref l3, .int (-1), .int 0]) (st := []) rfl rfl (by decide +kernel) rfl rfl rfl (by show kb4 + 9457 + 1 = kb4 + 9458; omega) (by show nb4 + 56540 + 6 = nb4 + 56546; omega) (X_ble (by show kb4 + 9458 ≤ 600086; omega)) (X_ble (by show nb4 + 56546 ≤ 7301442; omega)) (fun _ _ e => cy_L_why hl  e) (fun y1351 => ?_)
                refine X_ldc (v := -2000000097) rfl rfl (by decide +kernel) ?_
                refine X_bicmp_ne rfl rfl (fun _ => ?_) (fun _ => ?_)
                · refine X_iconst (v := 1) rfl rfl (by decide) ?_
                  refine X_goto rfl rfl ?_
                  exact X_sub (g_sub_s (g_sub_n (g_sub_s (g_sub_n (g_sub_n (g_sub_n (g_sub_n (g_sub_n (g_sub_n (g_sub_n (g_sub_n (g_sub_n (g_sub_n (g_sub_n (g_sub_n (g_sub_n (g_sub_n (g_sub_n (g_sub_n (g_sub_n (g_sub_n (g_sub_n (g_sub_n (g_sub_n (g_sub_n g_sub_0))))))))))))))))))))))))) (b_L_law_b1364 hl hX hret hkb4 hnb4 hK4 _ _ _)
                · exact X_sub (g_sub_s (g_sub_n (g_sub_s (g_sub_n (g_sub_n (g_sub_n (g_sub_n (g_sub_n (g_sub_n (g_sub_n (g_sub_n (g_sub_n (g_sub_n (g_sub_n (g_sub_n (g_sub_n (g_sub_n (g_sub_n (g_sub_n (g_sub_n (g_sub_n (g_sub_n (g_sub_n (g_sub_n (g_sub_n g_sub_0))))))))))))))))))))))))) (b_L_law_b1363 hl hX hret hkb4 hnb4 hK4 _ _)
              · refine X_wid (k' := kb4 + 9458) (n' := nb4 + 56546) (by omega) (by omega) ?_
                exact X_sub (g_sub_s (g_sub_n (g_sub_s (g_sub_n (g_sub_n (g_sub_n (g_sub_n (g_sub_n (g_sub_n (g_sub_n (g_sub_n (g_sub_n (g_sub_n (g_sub_n (g_sub_n (g_sub_n (g_sub_n (g_sub_n (g_sub_n (g_sub_n (g_sub_n (g_sub_n (g_sub_n (g_sub_n (g_sub_n g_sub_0))))))))))))))))))))))))) (b_L_law_b1363 hl hX hret hkb4 hnb4 hK4 _ _)
            · refine X_wid (k' := kb4 + 9458) (n' := nb4 + 56546) (by omega) (by omega) ?_
              exact X_sub (g_sub_s (g_sub_n (g_sub_s (g_sub_n (g_sub_n (g_sub_n (g_sub_n (g_sub_n (g_sub_n (g_sub_n (g_sub_n (g_sub_n (g_sub_n (g_sub_n (g_sub_n (g_sub_n (g_sub_n (g_sub_n (g_sub_n (g_sub_n (g_sub_n (g_sub_n (g_sub_n (g_sub_n (g_sub_n g_sub_0))))))))))))))))))))))))) (b_L_law_b1363 hl hX hret hkb4 hnb4 hK4 _ _)
          · refine X_wid (k' := kb4 + 9458) (n' := nb4 + 56546) (by omega) (by omega) ?_
            exact X_sub (g_sub_s (g_sub_n (g_sub_s (g_sub_n (g_sub_n (g_sub_n (g_sub_n (g_sub_n (g_sub_n (g_sub_n (g_sub_n (g_sub_n (g_sub_n (g_sub_n (g_sub_n (g_sub_n (g_sub_n (g_sub_n (g_sub_n (g_sub_n (g_sub_n (g_sub_n (g_sub_n (g_sub_n (g_sub_n g_sub_0))))))))))))))))))))))))) (b_L_law_b1363 hl hX hret hkb4 hnb4 hK4 _ _)
        · refine X_wid (k' := kb4 + 9458) (n' := nb4 + 56546) (by omega) (by omega) ?_
          exact X_sub (g_sub_s (g_sub_n (g_sub_s (g_sub_n (g_sub_n (g_sub_n (g_sub_n (g_sub_n (g_sub_n (g_sub_n (g_sub_n (g_sub_n (g_sub_n (g_sub_n (g_sub_n (g_sub_n (g_sub_n (g_sub_n (g_sub_n (g_sub_n (g_sub_n (g_sub_n (g_sub_n (g_sub_n (g_sub_n g_sub_0))))))))))))))))))))))))) (b_L_law_b1363 hl hX hret hkb4 hnb4 hK4 _ _)
      · refine X_wid (k' := kb4 + 9458) (n' := nb4 + 56546) (by omega) (by omega) ?_
        exact X_sub (g_sub_s (g_sub_n (g_sub_s (g_sub_n (g_sub_n (g_sub_n (g_sub_n (g_sub_n (g_sub_n (g_sub_n (g_sub_n (g_sub_n (g_sub_n (g_sub_n (g_sub_n (g_sub_n (g_sub_n (g_sub_n (g_sub_n (g_sub_n (g_sub_n (g_sub_n (g_sub_n (g_sub_n (g_sub_n g_sub_0))))))))))))))))))))))))) (b_L_law_b1363 hl hX hret hkb4 hnb4 hK4 _ _)
    · refine X_wid (k' := kb4 + 9458) (n' := nb4 + 56546) (by omega) (by omega) ?_
      exact X_sub (g_sub_s (g_sub_n (g_sub_s (g_sub_n (g_sub_n (g_sub_n (g_sub_n (g_sub_n (g_sub_n (g_sub_n (g_sub_n (g_sub_n (g_sub_n (g_sub_n (g_sub_n (g_sub_n (g_sub_n (g_sub_n (g_sub_n (g_sub_n (g_sub_n (g_sub_n (g_sub_n (g_sub_n (g_sub_n g_sub_0))))))))))))))))))))))))) (b_L_law_b1363 hl hX hret hkb4 hnb4 hK4 _ _)
set_option maxRecDepth 100000 in
theorem b_L_law_b1270 {l : Launch} {G : gG} (hl : l.stackTraces = false) {Q : State → Array Value → List Frame → Prop} {Z : State → Prop} {b N : Nat} {xs : Nat → Int32} (hX : g_scr G Q b N xs) (hret : ∀ (pc : Nat) (L : List (Option Value)) (h : gH) (k n : Nat) (v : Int32), decode code pc = .ok (.ireturn, 1) → k ≤ 600086 → n ≤ 7301442 → GX l G M_L_law (g_phS Q Z) k n pc L [.int v] h (some (v, h))) {kb4 nb4 : Nat} {kb1228 nb1228 : Nat} {K4 : gH → Int32 → Int32 → Option (Int32 × gH)} {K1228 : gH → Int32 → Int32 → Nat → Nat → Int32 → Int32 → Option (Int32 × gH)} (hkb4 : kb4 + 9458 ≤ 28374) (hnb4 : nb4 + 56546 ≤ 169638) (hkb1228 : kb1228 + 19 ≤ kb4 + 9451) (hnb1228 : nb1228 + 114 ≤ nb4 + 56503) (hK4 : ∀ (h : gH) (l1 : Int32) (l2 : Int32), GX l G M_L_law (g_phS Q Z) (kb4 + 9458) (nb4 + 56546) 4 [some (.ref b), some (.int l1), some (.int l2), none, none, none, none, none, none, none, none, none, none, none, none, none, none, none, none, none, none, none, none, none, none] [] h (K4 h l1 l2)) (hK1228 : ∀ (h : gH) (l1 : Int32) (l2 : Int32) (l3 : Nat) (l7 : Nat) (l8 : Int32) (l9 : Int32), GX l G M_L_law (g_phS Q Z) (kb1228 + 19) (nb1228 + 114) 1228 [some (.ref b), some (.int l1), some (.int l2), some (.ref l3), none, none, none, some (.ref l7), some (.int l8), some (.int l9), none, none, none, none, none, none, none, none, none, none, none, none, none, none, none] [] h (K1228 h l1 l2 l3 l7 l8 l9)) (h : gH) (l2 : Int32) (l3 : Nat) (l7 : Nat) (l8 : Int32) (l9 : Int32) (s0 : Int32) : GX l G M_L_law (g_phS Q Z) (kb1228 + 19) (nb1228 + 114) 1270 [some (.ref b), none, some (.int l2), some (.ref l3), none, none, none, some (.ref l7), some (.int l8), some (.int l9), none, none, none, none, none, none, none, none, none, none, none, none, none, none, none] [.int s0] h (f_L_law_b1270 G xs N K4 K1228 h l2 l3 l7 l8 l9 s0) := by
  unfold f_L_law_b1270
  refine X_istore_n rfl rfl rfl rfl ?_
  refine X_iinc (v := l9 + 1) rfl rfl rfl (congrArg (fun z => l9 + z) (by decide : Int32.ofInt 1 = 1)) rfl ?_
  refine X_goto rfl rfl ?_
  refine X_wid (k' := kb1228 + 19) (n' := nb1228 + 114) (by omega) (by omega) ?_
  exact X_sub (g_sub_s (g_sub_s (g_sub_s (g_sub_s (g_sub_n (g_sub_n (g_sub_n (g_sub_s (g_sub_s (g_sub_s (g_sub_n (g_sub_n (g_sub_n (g_sub_n (g_sub_n (g_sub_n (g_sub_n (g_sub_n (g_sub_n (g_sub_n (g_sub_n (g_sub_n (g_sub_n (g_sub_n (g_sub_n g_sub_0))))))))))))))))))))))))) (hK1228 _ _ _ _ _ _ _)
set_option maxRecDepth 100000 in
theorem b_L_law_b1269 {l : Launch} {G : gG} (hl : l.stackTraces = false) {Q : State → Array Value → List Frame → Prop} {Z : State → Prop} {b N : Nat} {xs : Nat → Int32} (hX : g_scr G Q b N xs) (hret : ∀ (pc : Nat) (L : List (Option Value)) (h : gH) (k n : Nat) (v : Int32), decode code pc = .ok (.ireturn, 1) → k ≤ 600086 → n ≤ 7301442 → GX l G M_L_law (g_phS Q Z) k n pc L [.int v] h (some (v, h))) {kb4 nb4 : Nat} {kb1228 nb1228 : Nat} {K4 : gH → Int32 → Int32 → Option (Int32 × gH)} {K1228 : gH → Int32 → Int32 → Nat → Nat → Int32 → Int32 → Option (Int32 × gH)} (hkb4 : kb4 + 9458 ≤ 28374) (hnb4 : nb4 + 56546 ≤ 169638) (hkb1228 : kb1228 + 19 ≤ kb4 + 9451) (hnb1228 : nb1228 + 114 ≤ nb4 + 56503) (hK4 : ∀ (h : gH) (l1 : Int32) (l2 : Int32), GX l G M_L_law (g_phS Q Z) (kb4 + 9458) (nb4 + 56546) 4 [some (.ref b), some (.int l1), some (.int l2), none, none, none, none, none, none, none, none, none, none, none, none, none, none, none, none, none, none, none, none, none, none] [] h (K4 h l1 l2)) (hK1228 : ∀ (h : gH) (l1 : Int32) (l2 : Int32) (l3 : Nat) (l7 : Nat) (l8 : Int32) (l9 : Int32), GX l G M_L_law (g_phS Q Z) (kb1228 + 19) (nb1228 + 114) 1228 [some (.ref b), some (.int l1), some (.int l2), some (.ref l3), none, none, none, some (.ref l7), some (.int l8), some (.int l9), none, none, none, none, none, none, none, none, none, none, none, none, none, none, none] [] h (K1228 h l1 l2 l3 l7 l8 l9)) (h : gH) (l2 : Int32) (l3 : Nat) (l7 : Nat) (l8 : Int32) (l9 : Int32) : GX l G M_L_law (g_phS Q Z) (kb1228 + 19) (nb1228 + 114) 1269 [some (.ref b), none, some (.int l2), some (.ref l3), none, none, none, some (.ref l7), some (.int l8), some (.int l9), none, none, none, none, none, none, none, none, none, none, none, none, none, none, none] [] h (f_L_law_b1269 G xs N K4 K1228 h l2 l3 l7 l8 l9) := by
  unfold f_L_law_b1269
  refine X_iconst (v := 0) rfl rfl (by decide) ?_
  exact X_sub (g_sub_s (g_sub_n (g_sub_s (g_sub_s (g_sub_n (g_sub_n (g_sub_n (g_sub_s (g_sub_s (g_sub_s (g_sub_n (g_sub_n (g_sub_n (g_sub_n (g_sub_n (g_sub_n (g_sub_n (g_sub_n (g_sub_n (g_sub_n (g_sub_n (g_sub_n (g_sub_n (g_sub_n (g_sub_n g_sub_0))))))))))))))))))))))))) (b_L_law_b1270 hl hX hret hkb4 hnb4 hkb1228 hnb1228 hK4 hK1228 _ _ _ _ _ _ _)
set_option maxRecDepth 100000 in
theorem b_L_law_b1228 {l : Launch} {G : gG} (hl : l.stackTraces = false) {Q : State → Array Value → List Frame → Prop} {Z : State → Prop} {b N : Nat} {xs : Nat → Int32} (hX : g_scr G Q b N xs) (hret : ∀ (pc : Nat) (L : List (Option Value)) (h : gH) (k n : Nat) (v : Int32), decode code pc = .ok (.ireturn, 1) → k ≤ 600086 → n ≤ 7301442 → GX l G M_L_law (g_phS Q Z) k n pc L [.int v] h (some (v, h))) {kb4 nb4 : Nat} {K4 : gH → Int32 → Int32 → Option (Int32 × gH)} (hkb4 : kb4 + 9458 ≤ 28374) (hnb4 : nb4 + 56546 ≤ 169638) (hK4 : ∀ (h : gH) (l1 : Int32) (l2 : Int32), GX l G M_L_law (g_phS Q Z) (kb4 + 9458) (nb4 + 56546) 4 [some (.ref b), some (.int l1), some (.int l2), none, none, none, none, none, none, none, none, none, none, none, none, none, none, none, none, none, none, none, none, none, none] [] h (K4 h l1 l2)) : ∀ (n kb1228 nb1228 : Nat), kb1228 + n * 19 ≤ kb4 + 9451 → nb1228 + n * 114 ≤ nb4 + 56503 → ∀ (h : gH) (l1 : Int32) (l2 : Int32) (l3 : Nat) (l7 : Nat) (l8 : Int32) (l9 : Int32), GX l G M_L_law (g_phS Q Z) kb1228 nb1228 1228 [some (.ref b), some (.int l1), some (.int l2), some (.ref l3), none, none, none, some (.ref l7), some (.int l8), some (.int l9), none, none, none, none, none, none, none, none, none, none, none, none, none, none, none] [] h (f_L_law_b1228 G xs N K4 n h l1 l2 l3 l7 l8 l9) := by
  intro n
  induction n with
  | zero => intros; exact X_none
  | succ n ih =>
    intro kb1228 nb1228 hk0 hn0 h l1 l2 l3 l7 l8 l9
    have hkb1228 : kb1228 + 19 ≤ kb4 + 9451 := by omega
    have hnb1228 : nb1228 + 114 ≤ nb4 + 56503 := by omega
    rw [f_L_law_b1228]
    refine X_iload rfl rfl rfl ?_
    refine X_bipush (v := 8) rfl rfl (by decide) ?_
    refine X_bicmp_ge rfl rfl (fun _ => ?_) (fun _ => ?_)
    · refine X_iload rfl rfl rfl ?_
      refine X_iload rfl rfl rfl ?_
      refine X_bicmp_ge rfl rfl (fun _ => ?_) (fun _ => ?_)
      · refine X_iload_n rfl rfl rfl ?_
        refine X_bif_eq rfl rfl (fun _ => ?_) (fun _ => ?_)
        · refine X_wid (k' := kb4 + 9451) (n' := nb4 + 56503) (by omega) (by omega) ?_
          exact X_sub (g_sub_s (g_sub_s (g_sub_s (g_sub_s (g_sub_n (g_sub_n (g_sub_n (g_sub_n (g_sub_n (g_sub_n (g_sub_n (g_sub_n (g_sub_n (g_sub_n (g_sub_n (g_sub_n (g_sub_n (g_sub_n (g_sub_n (g_sub_n (g_sub_n (g_sub_n (g_sub_n (g_sub_n (g_sub_n g_sub_0))))))))))))))))))))))))) (b_L_law_b1277 hl hX hret hkb4 hnb4 hK4 _ _ _ _)
        · refine X_aload_n rfl rfl rfl ?_
          refine X_kV_I (k1 := kb1228) (n1 := nb1228) (M' := M_X7_undo) (nA := 0) (As := []) (st := []) (b := l3) (ci := 7) rfl rfl (by decide +kernel) rfl rfl rfl rfl (by show kb1228 + 0 = kb1228; omega) (by show nb1228 + 0 = nb1228; omega) (X_ble (by show kb1228 ≤ 600086; omega)) (X_ble (by show nb1228 ≤ 7301442; omega)) (fun _ _ e => ct_X7_undo  e) (fun y1247 => ?_)
          refine X_bif_lt rfl rfl (fun _ => ?_) (fun _ => ?_)
          · refine X_aload_n rfl rfl rfl ?_
            refine X_aload rfl rfl rfl ?_
            refine X_iload rfl rfl rfl ?_
            refine X_qld9 (t := 9) rfl rfl (by simp) (fun v1258 => ?_)
            refine X_nn (fun v1258n e1258 => ?_)
            subst e1258
            refine X_kS_I (k1 := kb1228 + 19) (n1 := nb1228 + 114) (M' := M_L_agrees) (nA := 2) (As := [.ref l3, .ref v1258n]) (st := []) rfl rfl (by decide +kernel) rfl rfl rfl (by show kb1228 + 19 = kb1228 + 19; omega) (by show nb1228 + 114 = nb1228 + 114; omega) (X_ble (by show kb1228 + 19 ≤ 600086; omega)) (X_ble (by show nb1228 + 114 ≤ 7301442; omega)) (fun _ _ e => ct_L_agrees hl  e) (fun y1259 => ?_)
            refine X_bif_eq rfl rfl (fun _ => ?_) (fun _ => ?_)
            · exact X_sub (g_sub_s (g_sub_n (g_sub_s (g_sub_s (g_sub_n (g_sub_n (g_sub_n (g_sub_s (g_sub_s (g_sub_s (g_sub_n (g_sub_n (g_sub_n (g_sub_n (g_sub_n (g_sub_n (g_sub_n (g_sub_n (g_sub_n (g_sub_n (g_sub_n (g_sub_n (g_sub_n (g_sub_n (g_sub_n g_sub_0))))))))))))))))))))))))) (b_L_law_b1269 hl hX hret hkb4 hnb4 hkb1228 hnb1228 hK4 (ih _ _ (by omega) (by omega)) _ _ _ _ _ _)
            · refine X_iconst (v := 1) rfl rfl (by decide) ?_
              refine X_goto rfl rfl ?_
              exact X_sub (g_sub_s (g_sub_n (g_sub_s (g_sub_s (g_sub_n (g_sub_n (g_sub_n (g_sub_s (g_sub_s (g_sub_s (g_sub_n (g_sub_n (g_sub_n (g_sub_n (g_sub_n (g_sub_n (g_sub_n (g_sub_n (g_sub_n (g_sub_n (g_sub_n (g_sub_n (g_sub_n (g_sub_n (g_sub_n g_sub_0))))))))))))))))))))))))) (b_L_law_b1270 hl hX hret hkb4 hnb4 hkb1228 hnb1228 hK4 (ih _ _ (by omega) (by omega)) _ _ _ _ _ _ _)
          · refine X_wid (k' := kb1228 + 19) (n' := nb1228 + 114) (by omega) (by omega) ?_
            exact X_sub (g_sub_s (g_sub_n (g_sub_s (g_sub_s (g_sub_n (g_sub_n (g_sub_n (g_sub_s (g_sub_s (g_sub_s (g_sub_n (g_sub_n (g_sub_n (g_sub_n (g_sub_n (g_sub_n (g_sub_n (g_sub_n (g_sub_n (g_sub_n (g_sub_n (g_sub_n (g_sub_n (g_sub_n (g_sub_n g_sub_0))))))))))))))))))))))))) (b_L_law_b1269 hl hX hret hkb4 hnb4 hkb1228 hnb1228 hK4 (ih _ _ (by omega) (by omega)) _ _ _ _ _ _)
      · refine X_wid (k' := kb4 + 9451) (n' := nb4 + 56503) (by omega) (by omega) ?_
        exact X_sub (g_sub_s (g_sub_s (g_sub_s (g_sub_s (g_sub_n (g_sub_n (g_sub_n (g_sub_n (g_sub_n (g_sub_n (g_sub_n (g_sub_n (g_sub_n (g_sub_n (g_sub_n (g_sub_n (g_sub_n (g_sub_n (g_sub_n (g_sub_n (g_sub_n (g_sub_n (g_sub_n (g_sub_n (g_sub_n g_sub_0))))))))))))))))))))))))) (b_L_law_b1277 hl hX hret hkb4 hnb4 hK4 _ _ _ _)
    · refine X_wid (k' := kb4 + 9451) (n' := nb4 + 56503) (by omega) (by omega) ?_
      exact X_sub (g_sub_s (g_sub_s (g_sub_s (g_sub_s (g_sub_n (g_sub_n (g_sub_n (g_sub_n (g_sub_n (g_sub_n (g_sub_n (g_sub_n (g_sub_n (g_sub_n (g_sub_n (g_sub_n (g_sub_n (g_sub_n (g_sub_n (g_sub_n (g_sub_n (g_sub_n (g_sub_n (g_sub_n (g_sub_n g_sub_0))))))))))))))))))))))))) (b_L_law_b1277 hl hX hret hkb4 hnb4 hK4 _ _ _ _)
set_option maxRecDepth 100000 in
theorem b_L_law_b1225 {l : Launch} {G : gG} (hl : l.stackTraces = false) {Q : State → Array Value → List Frame → Prop} {Z : State → Prop} {b N : Nat} {xs : Nat → Int32} (hX : g_scr G Q b N xs) (hret : ∀ (pc : Nat) (L : List (Option Value)) (h : gH) (k n : Nat) (v : Int32), decode code pc = .ok (.ireturn, 1) → k ≤ 600086 → n ≤ 7301442 → GX l G M_L_law (g_phS Q Z) k n pc L [.int v] h (some (v, h))) {kb4 nb4 : Nat} {K4 : gH → Int32 → Int32 → Option (Int32 × gH)} (hkb4 : kb4 + 9458 ≤ 28374) (hnb4 : nb4 + 56546 ≤ 169638) (hK4 : ∀ (h : gH) (l1 : Int32) (l2 : Int32), GX l G M_L_law (g_phS Q Z) (kb4 + 9458) (nb4 + 56546) 4 [some (.ref b), some (.int l1), some (.int l2), none, none, none, none, none, none, none, none, none, none, none, none, none, none, none, none, none, none, none, none, none, none] [] h (K4 h l1 l2)) (h : gH) (l1 : Int32) (l2 : Int32) (l3 : Nat) (l7 : Nat) (l8 : Int32) : GX l G M_L_law (g_phS Q Z) (kb4 + 9261) (nb4 + 55363) 1225 [some (.ref b), some (.int l1), some (.int l2), some (.ref l3), none, none, none, some (.ref l7), some (.int l8), none, none, none, none, none, none, none, none, none, none, none, none, none, none, none, none] [] h (f_L_law_b1225 G xs N K4 h l1 l2 l3 l7 l8) := by
  unfold f_L_law_b1225
  refine X_iconst (v := 0) rfl rfl (by decide) ?_
  refine X_istore rfl rfl rfl rfl ?_
  exact X_sub (g_sub_s (g_sub_s (g_sub_s (g_sub_s (g_sub_n (g_sub_n (g_sub_n (g_sub_s (g_sub_s (g_sub_s (g_sub_n (g_sub_n (g_sub_n (g_sub_n (g_sub_n (g_sub_n (g_sub_n (g_sub_n (g_sub_n (g_sub_n (g_sub_n (g_sub_n (g_sub_n (g_sub_n (g_sub_n g_sub_0))))))))))))))))))))))))) (b_L_law_b1228 hl hX hret hkb4 hnb4 hK4 10 _ _ (by omega) (by omega) _ _ _ _ _ _ _)
set_option maxRecDepth 100000 in
theorem b_L_law_b1218 {l : Launch} {G : gG} (hl : l.stackTraces = false) {Q : State → Array Value → List Frame → Prop} {Z : State → Prop} {b N : Nat} {xs : Nat → Int32} (hX : g_scr G Q b N xs) (hret : ∀ (pc : Nat) (L : List (Option Value)) (h : gH) (k n : Nat) (v : Int32), decode code pc = .ok (.ireturn, 1) → k ≤ 600086 → n ≤ 7301442 → GX l G M_L_law (g_phS Q Z) k n pc L [.int v] h (some (v, h))) {kb4 nb4 : Nat} {kb247 nb247 : Nat} {K4 : gH → Int32 → Int32 → Option (Int32 × gH)} {K247 : gH → Int32 → Int32 → Nat → Nat → Nat → Nat → Nat → Int32 → Int32 → Option (Int32 × gH)} (hkb4 : kb4 + 9458 ≤ 28374) (hnb4 : nb4 + 56546 ≤ 169638) (hkb247 : kb247 + 313 ≤ kb4 + 9261) (hnb247 : nb247 + 1527 ≤ nb4 + 55363) (hK4 : ∀ (h : gH) (l1 : Int32) (l2 : Int32), GX l G M_L_law (g_phS Q Z) (kb4 + 9458) (nb4 + 56546) 4 [some (.ref b), some (.int l1), some (.int l2), none, none, none, none, none, none, none, none, none, none, none, none, none, none, none, none, none, none, none, none, none, none] [] h (K4 h l1 l2)) (hK247 : ∀ (h : gH) (l1 : Int32) (l2 : Int32) (l3 : Nat) (l4 : Nat) (l5 : Nat) (l6 : Nat) (l7 : Nat) (l8 : Int32) (l9 : Int32), GX l G M_L_law (g_phS Q Z) (kb247 + 313) (nb247 + 1527) 247 [some (.ref b), some (.int l1), some (.int l2), some (.ref l3), some (.ref l4), some (.ref l5), some (.ref l6), some (.ref l7), some (.int l8), some (.int l9), none, none, none, none, none, none, none, none, none, none, none, none, none, none, none] [] h (K247 h l1 l2 l3 l4 l5 l6 l7 l8 l9)) (h : gH) (l2 : Int32) (l3 : Nat) (l4 : Nat) (l5 : Nat) (l6 : Nat) (l7 : Nat) (l8 : Int32) (l9 : Int32) (s0 : Int32) : GX l G M_L_law (g_phS Q Z) (kb247 + 313) (nb247 + 1527) 1218 [some (.ref b), none, some (.int l2), some (.ref l3), some (.ref l4), some (.ref l5), some (.ref l6), some (.ref l7), some (.int l8), some (.int l9), none, none, none, none, none, none, none, none, none, none, none, none, none, none, none] [.int s0] h (f_L_law_b1218 G xs N K4 K247 h l2 l3 l4 l5 l6 l7 l8 l9 s0) := by
  unfold f_L_law_b1218
  refine X_istore_n rfl rfl rfl rfl ?_
  refine X_iinc (v := l9 + 1) rfl rfl rfl (congrArg (fun z => l9 + z) (by decide : Int32.ofInt 1 = 1)) rfl ?_
  refine X_goto rfl rfl ?_
  refine X_wid (k' := kb247 + 313) (n' := nb247 + 1527) (by omega) (by omega) ?_
  exact X_sub (g_sub_s (g_sub_s (g_sub_s (g_sub_s (g_sub_s (g_sub_s (g_sub_s (g_sub_s (g_sub_s (g_sub_s (g_sub_n (g_sub_n (g_sub_n (g_sub_n (g_sub_n (g_sub_n (g_sub_n (g_sub_n (g_sub_n (g_sub_n (g_sub_n (g_sub_n (g_sub_n (g_sub_n (g_sub_n g_sub_0))))))))))))))))))))))))) (hK247 _ _ _ _ _ _ _ _ _ _)
