set_option maxRecDepth 100000 in
theorem b_L_law_b1081 {l : Launch} {G : gG} (hl : l.stackTraces = false) {Q : State → Array Value → List Frame → Prop} {Z : State → Prop} {b N : Nat} {xs : Nat → Int32} (hX : g_scr G Q b N xs) (hret : ∀ (pc : Nat) (L : List (Option Value)) (h : gH) (k n : Nat) (v : Int32), decode code pc = .ok (.ireturn, 1) → k ≤ 600086 → n ≤ 7301442 → GX l G M_L_law (g_phS Q Z) k n pc L [.int v] h (some (v, h))) {kb4 nb4 : Nat} {kb247 nb247 : Nat} {K4 : gH → Int32 → Int32 → Option (Int32 × gH)} {K247 : gH → Int32 → Int32 → Nat → Nat → Nat → Nat → Nat → Int32 → Int32 → Option (Int32 × gH)} (hkb4 : kb4 + 9458 ≤ 28374) (hnb4 : nb4 + 56546 ≤ 169638) (hkb247 : kb247 + 313 ≤ kb4 + 9261) (hnb247 : nb247 + 1527 ≤ nb4 + 55363) (hK4 : ∀ (h : gH) (l1 : Int32) (l2 : Int32), GX l G M_L_law (g_phS Q Z) (kb4 + 9458) (nb4 + 56546) 4 [some (.ref b), some (.int l1), some (.int l2), none, none, none, none, none, none, none, none, none, none, none, none, none, none, none, none, none, none, none, none, none, none] [] h (K4 h l1 l2)) (hK247 : ∀ (h : gH) (l1 : Int32) (l2 : Int32) (l3 : Nat) (l4 : Nat) (l5 : Nat) (l6 : Nat) (l7 : Nat) (l8 : Int32) (l9 : Int32), GX l G M_L_law (g_phS Q Z) (kb247 + 313) (nb247 + 1527) 247 [some (.ref b), some (.int l1), some (.int l2), some (.ref l3), some (.ref l4), some (.ref l5), some (.ref l6), some (.ref l7), some (.int l8), some (.int l9), none, none, none, none, none, none, none, none, none, none, none, none, none, none, none] [] h (K247 h l1 l2 l3 l4 l5 l6 l7 l8 l9)) (h : gH) (l2 : Int32) (l3 : Nat) (l4 : Nat) (l5 : Nat) (l6 : Nat) (l7 : Nat) (l8 : Int32) (l9 : Int32) (l10 : Nat) (l11 : Int32) (s0 : Int32) : GX l G M_L_law (g_phS Q Z) (kb247 + 218) (nb247 + 803) 1081 [some (.ref b), none, some (.int l2), some (.ref l3), some (.ref l4), some (.ref l5), some (.ref l6), some (.ref l7), some (.int l8), some (.int l9), some (.ref l10), some (.int l11), none, none, none, none, none, none, none, none, none, none, none, none, none] [.int s0] h (f_L_law_b1081 G xs N K4 K247 h l2 l3 l4 l5 l6 l7 l8 l9 l10 l11 s0) := by
  unfold f_L_law_b1081
  refine X_istore_n rfl rfl rfl rfl ?_
  refine X_goto rfl rfl ?_
  refine X_wid (k' := kb247 + 294) (n' := nb247 + 1413) (by omega) (by omega) ?_
  exact X_sub (g_sub_s (g_sub_s (g_sub_s (g_sub_s (g_sub_s (g_sub_s (g_sub_s (g_sub_s (g_sub_s (g_sub_s (g_sub_s (g_sub_s (g_sub_n (g_sub_n (g_sub_n (g_sub_n (g_sub_n (g_sub_n (g_sub_n (g_sub_n (g_sub_n (g_sub_n (g_sub_n (g_sub_n (g_sub_n g_sub_0))))))))))))))))))))))))) (b_L_law_b1159 hl hX hret hkb4 hnb4 hkb247 hnb247 hK4 hK247 _ _ _ _ _ _ _ _ _ _ _ _)
set_option maxRecDepth 100000 in
theorem b_L_law_b1073 {l : Launch} {G : gG} (hl : l.stackTraces = false) {Q : State → Array Value → List Frame → Prop} {Z : State → Prop} {b N : Nat} {xs : Nat → Int32} (hX : g_scr G Q b N xs) (hret : ∀ (pc : Nat) (L : List (Option Value)) (h : gH) (k n : Nat) (v : Int32), decode code pc = .ok (.ireturn, 1) → k ≤ 600086 → n ≤ 7301442 → GX l G M_L_law (g_phS Q Z) k n pc L [.int v] h (some (v, h))) {kb4 nb4 : Nat} {kb247 nb247 : Nat} {K4 : gH → Int32 → Int32 → Option (Int32 × gH)} {K247 : gH → Int32 → Int32 → Nat → Nat → Nat → Nat → Nat → Int32 → Int32 → Option (Int32 × gH)} (hkb4 : kb4 + 9458 ≤ 28374) (hnb4 : nb4 + 56546 ≤ 169638) (hkb247 : kb247 + 313 ≤ kb4 + 9261) (hnb247 : nb247 + 1527 ≤ nb4 + 55363) (hK4 : ∀ (h : gH) (l1 : Int32) (l2 : Int32), GX l G M_L_law (g_phS Q Z) (kb4 + 9458) (nb4 + 56546) 4 [some (.ref b), some (.int l1), some (.int l2), none, none, none, none, none, none, none, none, none, none, none, none, none, none, none, none, none, none, none, none, none, none] [] h (K4 h l1 l2)) (hK247 : ∀ (h : gH) (l1 : Int32) (l2 : Int32) (l3 : Nat) (l4 : Nat) (l5 : Nat) (l6 : Nat) (l7 : Nat) (l8 : Int32) (l9 : Int32), GX l G M_L_law (g_phS Q Z) (kb247 + 313) (nb247 + 1527) 247 [some (.ref b), some (.int l1), some (.int l2), some (.ref l3), some (.ref l4), some (.ref l5), some (.ref l6), some (.ref l7), some (.int l8), some (.int l9), none, none, none, none, none, none, none, none, none, none, none, none, none, none, none] [] h (K247 h l1 l2 l3 l4 l5 l6 l7 l8 l9)) (h : gH) (l2 : Int32) (l3 : Nat) (l4 : Nat) (l5 : Nat) (l6 : Nat) (l7 : Nat) (l8 : Int32) (l9 : Int32) (l10 : Nat) (l11 : Int32) (s0 : Int32) (s1 : Int32) : GX l G M_L_law (g_phS Q Z) (kb247 + 218) (nb247 + 803) 1073 [some (.ref b), none, some (.int l2), some (.ref l3), some (.ref l4), some (.ref l5), some (.ref l6), some (.ref l7), some (.int l8), some (.int l9), some (.ref l10), some (.int l11), none, none, none, none, none, none, none, none, none, none, none, none, none] [.int s0, .int s1] h (f_L_law_b1073 G xs N K4 K247 h l2 l3 l4 l5 l6 l7 l8 l9 l10 l11 s0 s1) := by
  unfold f_L_law_b1073
  refine X_bicmp_ne rfl rfl (fun _ => ?_) (fun _ => ?_)
  · refine X_iconst (v := 1) rfl rfl (by decide) ?_
    refine X_goto rfl rfl ?_
    exact X_sub (g_sub_s (g_sub_n (g_sub_s (g_sub_s (g_sub_s (g_sub_s (g_sub_s (g_sub_s (g_sub_s (g_sub_s (g_sub_s (g_sub_s (g_sub_n (g_sub_n (g_sub_n (g_sub_n (g_sub_n (g_sub_n (g_sub_n (g_sub_n (g_sub_n (g_sub_n (g_sub_n (g_sub_n (g_sub_n g_sub_0))))))))))))))))))))))))) (b_L_law_b1081 hl hX hret hkb4 hnb4 hkb247 hnb247 hK4 hK247 _ _ _ _ _ _ _ _ _ _ _ _)
  · refine X_iconst (v := 0) rfl rfl (by decide) ?_
    exact X_sub (g_sub_s (g_sub_n (g_sub_s (g_sub_s (g_sub_s (g_sub_s (g_sub_s (g_sub_s (g_sub_s (g_sub_s (g_sub_s (g_sub_s (g_sub_n (g_sub_n (g_sub_n (g_sub_n (g_sub_n (g_sub_n (g_sub_n (g_sub_n (g_sub_n (g_sub_n (g_sub_n (g_sub_n (g_sub_n g_sub_0))))))))))))))))))))))))) (b_L_law_b1081 hl hX hret hkb4 hnb4 hkb247 hnb247 hK4 hK247 _ _ _ _ _ _ _ _ _ _ _ _)
set_option maxRecDepth 100000 in
theorem b_L_law_b1030 {l : Launch} {G : gG} (hl : l.stackTraces = false) {Q : State → Array Value → List Frame → Prop} {Z : State → Prop} {b N : Nat} {xs : Nat → Int32} (hX : g_scr G Q b N xs) (hret : ∀ (pc : Nat) (L : List (Option Value)) (h : gH) (k n : Nat) (v : Int32), decode code pc = .ok (.ireturn, 1) → k ≤ 600086 → n ≤ 7301442 → GX l G M_L_law (g_phS Q Z) k n pc L [.int v] h (some (v, h))) {kb4 nb4 : Nat} {kb247 nb247 : Nat} {K4 : gH → Int32 → Int32 → Option (Int32 × gH)} {K247 : gH → Int32 → Int32 → Nat → Nat → Nat → Nat → Nat → Int32 → Int32 → Option (Int32 × gH)} (hkb4 : kb4 + 9458 ≤ 28374) (hnb4 : nb4 + 56546 ≤ 169638) (hkb247 : kb247 + 313 ≤ kb4 + 9261) (hnb247 : nb247 + 1527 ≤ nb4 + 55363) (hK4 : ∀ (h : gH) (l1 : Int32) (l2 : Int32), GX l G M_L_law (g_phS Q Z) (kb4 + 9458) (nb4 + 56546) 4 [some (.ref b), some (.int l1), some (.int l2), none, none, none, none, none, none, none, none, none, none, none, none, none, none, none, none, none, none, none, none, none, none] [] h (K4 h l1 l2)) (hK247 : ∀ (h : gH) (l1 : Int32) (l2 : Int32) (l3 : Nat) (l4 : Nat) (l5 : Nat) (l6 : Nat) (l7 : Nat) (l8 : Int32) (l9 : Int32), GX l G M_L_law (g_phS Q Z) (kb247 + 313) (nb247 + 1527) 247 [some (.ref b), some (.int l1), some (.int l2), some (.ref l3), some (.ref l4), some (.ref l5), some (.ref l6), some (.ref l7), some (.int l8), some (.int l9), none, none, none, none, none, none, none, none, none, none, none, none, none, none, none] [] h (K247 h l1 l2 l3 l4 l5 l6 l7 l8 l9)) (h : gH) (l2 : Int32) (l3 : Nat) (l4 : Nat) (l5 : Nat) (l6 : Nat) (l7 : Nat) (l8 : Int32) (l9 : Int32) (l10 : Nat) (l23 : Int32) (l24 : Int32) (s0 : Int32) : GX l G M_L_law (g_phS Q Z) (kb247 + 217) (nb247 + 797) 1030 [some (.ref b), none, some (.int l2), some (.ref l3), some (.ref l4), some (.ref l5), some (.ref l6), some (.ref l7), some (.int l8), some (.int l9), some (.ref l10), none, none, none, none, none, none, none, none, none, none, none, none, some (.int l23), some (.int l24)] [.int s0] h (f_L_law_b1030 G xs N K4 K247 h l2 l3 l4 l5 l6 l7 l8 l9 l10 l23 l24 s0) := by
  unfold f_L_law_b1030
  refine X_istore rfl rfl rfl rfl ?_
  refine X_aload_n rfl rfl rfl ?_
  refine X_iload rfl rfl rfl ?_
  refine X_kY_I (k1 := kb247 + 218) (n1 := nb247 + 803) (M' := M_L_cancel) (nA := 2) (As := [.ref l3, .int l23]) (st := []) rfl rfl (by decide +kernel) rfl rfl rfl (by show kb247 + 217 + 1 = kb247 + 218; omega) (by show nb247 + 797 + 6 = nb247 + 803; omega) (X_ble (by show kb247 + 218 ≤ 600086; omega)) (X_ble (by show nb247 + 803 ≤ 7301442; omega)) (fun _ _ e => cy_L_cancel hl  e) (fun y1035 => ?_)
  refine X_iload rfl rfl rfl ?_
  refine X_bif_eq rfl rfl (fun _ => ?_) (fun _ => ?_)
  · refine X_iload rfl rfl rfl ?_
    refine X_bif_eq rfl rfl (fun _ => ?_) (fun _ => ?_)
    · refine X_ldc (v := -2000000097) rfl rfl (by decide +kernel) ?_
      exact X_sub (g_sub_s (g_sub_n (g_sub_s (g_sub_s (g_sub_s (g_sub_s (g_sub_s (g_sub_s (g_sub_s (g_sub_s (g_sub_s (g_sub_s (g_sub_n (g_sub_n (g_sub_n (g_sub_n (g_sub_n (g_sub_n (g_sub_n (g_sub_n (g_sub_n (g_sub_n (g_sub_n (g_sub_n (g_sub_n g_sub_0))))))))))))))))))))))))) (b_L_law_b1073 hl hX hret hkb4 hnb4 hkb247 hnb247 hK4 hK247 _ _ _ _ _ _ _ _ _ _ _ _ _)
    · refine X_ldc (v := -2000000099) rfl rfl (by decide +kernel) ?_
      refine X_goto rfl rfl ?_
      exact X_sub (g_sub_s (g_sub_n (g_sub_s (g_sub_s (g_sub_s (g_sub_s (g_sub_s (g_sub_s (g_sub_s (g_sub_s (g_sub_s (g_sub_s (g_sub_n (g_sub_n (g_sub_n (g_sub_n (g_sub_n (g_sub_n (g_sub_n (g_sub_n (g_sub_n (g_sub_n (g_sub_n (g_sub_n (g_sub_n g_sub_0))))))))))))))))))))))))) (b_L_law_b1073 hl hX hret hkb4 hnb4 hkb247 hnb247 hK4 hK247 _ _ _ _ _ _ _ _ _ _ _ _ _)
  · refine X_aload rfl rfl rfl ?_
    refine X_iload rfl rfl rfl ?_
    refine X_kV_I (k1 := kb247 + 218) (n1 := nb247 + 803) (M' := M_X10_cancels) (nA := 1) (As := [.int l23]) (st := [.int y1035.1]) (b := l6) (ci := 10) rfl rfl (by decide +kernel) rfl rfl rfl rfl (by show kb247 + 218 + 0 = kb247 + 218; omega) (by show nb247 + 803 + 0 = nb247 + 803; omega) (X_ble (by show kb247 + 218 ≤ 600086; omega)) (X_ble (by show nb247 + 803 ≤ 7301442; omega)) (fun _ _ e => ct_X10_cancels  e) (fun y1047 => ?_)
    refine X_bif_eq rfl rfl (fun _ => ?_) (fun _ => ?_)
    · refine X_iconst (v := 0) rfl rfl (by decide) ?_
      refine X_goto rfl rfl ?_
      exact X_sub (g_sub_s (g_sub_n (g_sub_s (g_sub_s (g_sub_s (g_sub_s (g_sub_s (g_sub_s (g_sub_s (g_sub_s (g_sub_s (g_sub_s (g_sub_n (g_sub_n (g_sub_n (g_sub_n (g_sub_n (g_sub_n (g_sub_n (g_sub_n (g_sub_n (g_sub_n (g_sub_n (g_sub_n (g_sub_n g_sub_0))))))))))))))))))))))))) (b_L_law_b1073 hl hX hret hkb4 hnb4 hkb247 hnb247 hK4 hK247 _ _ _ _ _ _ _ _ _ _ _ _ _)
    · refine X_iconst (v := 1) rfl rfl (by decide) ?_
      refine X_goto rfl rfl ?_
      exact X_sub (g_sub_s (g_sub_n (g_sub_s (g_sub_s (g_sub_s (g_sub_s (g_sub_s (g_sub_s (g_sub_s (g_sub_s (g_sub_s (g_sub_s (g_sub_n (g_sub_n (g_sub_n (g_sub_n (g_sub_n (g_sub_n (g_sub_n (g_sub_n (g_sub_n (g_sub_n (g_sub_n (g_sub_n (g_sub_n g_sub_0))))))))))))))))))))))))) (b_L_law_b1073 hl hX hret hkb4 hnb4 hkb247 hnb247 hK4 hK247 _ _ _ _ _ _ _ _ _ _ _ _ _)
set_option maxRecDepth 100000 in
theorem b_L_law_b1029 {l : Launch} {G : gG} (hl : l.stackTraces = false) {Q : State → Array Value → List Frame → Prop} {Z : State → Prop} {b N : Nat} {xs : Nat → Int32} (hX : g_scr G Q b N xs) (hret : ∀ (pc : Nat) (L : List (Option Value)) (h : gH) (k n : Nat) (v : Int32), decode code pc = .ok (.ireturn, 1) → k ≤ 600086 → n ≤ 7301442 → GX l G M_L_law (g_phS Q Z) k n pc L [.int v] h (some (v, h))) {kb4 nb4 : Nat} {kb247 nb247 : Nat} {K4 : gH → Int32 → Int32 → Option (Int32 × gH)} {K247 : gH → Int32 → Int32 → Nat → Nat → Nat → Nat → Nat → Int32 → Int32 → Option (Int32 × gH)} (hkb4 : kb4 + 9458 ≤ 28374) (hnb4 : nb4 + 56546 ≤ 169638) (hkb247 : kb247 + 313 ≤ kb4 + 9261) (hnb247 : nb247 + 1527 ≤ nb4 + 55363) (hK4 : ∀ (h : gH) (l1 : Int32) (l2 : Int32), GX l G M_L_law (g_phS Q Z) (kb4 + 9458) (nb4 + 56546) 4 [some (.ref b), some (.int l1), some (.int l2), none, none, none, none, none, none, none, none, none, none, none, none, none, none, none, none, none, none, none, none, none, none] [] h (K4 h l1 l2)) (hK247 : ∀ (h : gH) (l1 : Int32) (l2 : Int32) (l3 : Nat) (l4 : Nat) (l5 : Nat) (l6 : Nat) (l7 : Nat) (l8 : Int32) (l9 : Int32), GX l G M_L_law (g_phS Q Z) (kb247 + 313) (nb247 + 1527) 247 [some (.ref b), some (.int l1), some (.int l2), some (.ref l3), some (.ref l4), some (.ref l5), some (.ref l6), some (.ref l7), some (.int l8), some (.int l9), none, none, none, none, none, none, none, none, none, none, none, none, none, none, none] [] h (K247 h l1 l2 l3 l4 l5 l6 l7 l8 l9)) (h : gH) (l2 : Int32) (l3 : Nat) (l4 : Nat) (l5 : Nat) (l6 : Nat) (l7 : Nat) (l8 : Int32) (l9 : Int32) (l10 : Nat) (l23 : Int32) (l24 : Int32) : GX l G M_L_law (g_phS Q Z) (kb247 + 217) (nb247 + 797) 1029 [some (.ref b), none, some (.int l2), some (.ref l3), some (.ref l4), some (.ref l5), some (.ref l6), some (.ref l7), some (.int l8), some (.int l9), some (.ref l10), none, none, none, none, none, none, none, none, none, none, none, none, some (.int l23), some (.int l24)] [] h (f_L_law_b1029 G xs N K4 K247 h l2 l3 l4 l5 l6 l7 l8 l9 l10 l23 l24) := by
  unfold f_L_law_b1029
  refine X_iconst (v := 0) rfl rfl (by decide) ?_
  exact X_sub (g_sub_s (g_sub_n (g_sub_s (g_sub_s (g_sub_s (g_sub_s (g_sub_s (g_sub_s (g_sub_s (g_sub_s (g_sub_s (g_sub_n (g_sub_n (g_sub_n (g_sub_n (g_sub_n (g_sub_n (g_sub_n (g_sub_n (g_sub_n (g_sub_n (g_sub_n (g_sub_n (g_sub_s (g_sub_s g_sub_0))))))))))))))))))))))))) (b_L_law_b1030 hl hX hret hkb4 hnb4 hkb247 hnb247 hK4 hK247 _ _ _ _ _ _ _ _ _ _ _ _ _)
set_option maxRecDepth 100000 in
theorem b_L_law_b1003 {l : Launch} {G : gG} (hl : l.stackTraces = false) {Q : State → Array Value → List Frame → Prop} {Z : State → Prop} {b N : Nat} {xs : Nat → Int32} (hX : g_scr G Q b N xs) (hret : ∀ (pc : Nat) (L : List (Option Value)) (h : gH) (k n : Nat) (v : Int32), decode code pc = .ok (.ireturn, 1) → k ≤ 600086 → n ≤ 7301442 → GX l G M_L_law (g_phS Q Z) k n pc L [.int v] h (some (v, h))) {kb4 nb4 : Nat} {kb247 nb247 : Nat} {K4 : gH → Int32 → Int32 → Option (Int32 × gH)} {K247 : gH → Int32 → Int32 → Nat → Nat → Nat → Nat → Nat → Int32 → Int32 → Option (Int32 × gH)} (hkb4 : kb4 + 9458 ≤ 28374) (hnb4 : nb4 + 56546 ≤ 169638) (hkb247 : kb247 + 313 ≤ kb4 + 9261) (hnb247 : nb247 + 1527 ≤ nb4 + 55363) (hK4 : ∀ (h : gH) (l1 : Int32) (l2 : Int32), GX l G M_L_law (g_phS Q Z) (kb4 + 9458) (nb4 + 56546) 4 [some (.ref b), some (.int l1), some (.int l2), none, none, none, none, none, none, none, none, none, none, none, none, none, none, none, none, none, none, none, none, none, none] [] h (K4 h l1 l2)) (hK247 : ∀ (h : gH) (l1 : Int32) (l2 : Int32) (l3 : Nat) (l4 : Nat) (l5 : Nat) (l6 : Nat) (l7 : Nat) (l8 : Int32) (l9 : Int32), GX l G M_L_law (g_phS Q Z) (kb247 + 313) (nb247 + 1527) 247 [some (.ref b), some (.int l1), some (.int l2), some (.ref l3), some (.ref l4), some (.ref l5), some (.ref l6), some (.ref l7), some (.int l8), some (.int l9), none, none, none, none, none, none, none, none, none, none, none, none, none, none, none] [] h (K247 h l1 l2 l3 l4 l5 l6 l7 l8 l9)) (h : gH) (l2 : Int32) (l3 : Nat) (l4 : Nat) (l5 : Nat) (l6 : Nat) (l7 : Nat) (l8 : Int32) (l9 : Int32) (l10 : Nat) (l23 : Int32) (s0 : Int32) : GX l G M_L_law (g_phS Q Z) (kb247 + 217) (nb247 + 797) 1003 [some (.ref b), none, some (.int l2), some (.ref l3), some (.ref l4), some (.ref l5), some (.ref l6), some (.ref l7), some (.int l8), some (.int l9), some (.ref l10), none, none, none, none, none, none, none, none, none, none, none, none, some (.int l23), none] [.int s0] h (f_L_law_b1003 G xs N K4 K247 h l2 l3 l4 l5 l6 l7 l8 l9 l10 l23 s0) := by
  unfold f_L_law_b1003
  refine X_istore rfl rfl rfl rfl ?_
  refine X_iload rfl rfl rfl ?_
  refine X_bif_eq rfl rfl (fun _ => ?_) (fun _ => ?_)
  · exact X_sub (g_sub_s (g_sub_n (g_sub_s (g_sub_s (g_sub_s (g_sub_s (g_sub_s (g_sub_s (g_sub_s (g_sub_s (g_sub_s (g_sub_n (g_sub_n (g_sub_n (g_sub_n (g_sub_n (g_sub_n (g_sub_n (g_sub_n (g_sub_n (g_sub_n (g_sub_n (g_sub_n (g_sub_s (g_sub_s g_sub_0))))))))))))))))))))))))) (b_L_law_b1029 hl hX hret hkb4 hnb4 hkb247 hnb247 hK4 hK247 _ _ _ _ _ _ _ _ _ _ _ _)
  · refine X_aload rfl rfl rfl ?_
    refine X_getA rfl rfl (fun v1012 => ?_)
    refine X_iload rfl rfl rfl ?_
    refine X_qld9 (t := 8) rfl rfl (by simp) (fun v1017 => ?_)
    refine X_nn (fun v1017n e1017 => ?_)
    subst e1017
    refine X_getI rfl rfl (fun v1018 => ?_)
    refine X_iconst (v := 2) rfl rfl (by decide) ?_
    refine X_bicmp_ge rfl rfl (fun _ => ?_) (fun _ => ?_)
    · refine X_iconst (v := 1) rfl rfl (by decide) ?_
      refine X_goto rfl rfl ?_
      exact X_sub (g_sub_s (g_sub_n (g_sub_s (g_sub_s (g_sub_s (g_sub_s (g_sub_s (g_sub_s (g_sub_s (g_sub_s (g_sub_s (g_sub_n (g_sub_n (g_sub_n (g_sub_n (g_sub_n (g_sub_n (g_sub_n (g_sub_n (g_sub_n (g_sub_n (g_sub_n (g_sub_n (g_sub_s (g_sub_s g_sub_0))))))))))))))))))))))))) (b_L_law_b1030 hl hX hret hkb4 hnb4 hkb247 hnb247 hK4 hK247 _ _ _ _ _ _ _ _ _ _ _ _ _)
    · exact X_sub (g_sub_s (g_sub_n (g_sub_s (g_sub_s (g_sub_s (g_sub_s (g_sub_s (g_sub_s (g_sub_s (g_sub_s (g_sub_s (g_sub_n (g_sub_n (g_sub_n (g_sub_n (g_sub_n (g_sub_n (g_sub_n (g_sub_n (g_sub_n (g_sub_n (g_sub_n (g_sub_n (g_sub_s (g_sub_s g_sub_0))))))))))))))))))))))))) (b_L_law_b1029 hl hX hret hkb4 hnb4 hkb247 hnb247 hK4 hK247 _ _ _ _ _ _ _ _ _ _ _ _)
set_option maxRecDepth 100000 in
theorem b_L_law_b1158 {l : Launch} {G : gG} (hl : l.stackTraces = false) {Q : State → Array Value → List Frame → Prop} {Z : State → Prop} {b N : Nat} {xs : Nat → Int32} (hX : g_scr G Q b N xs) (hret : ∀ (pc : Nat) (L : List (Option Value)) (h : gH) (k n : Nat) (v : Int32), decode code pc = .ok (.ireturn, 1) → k ≤ 600086 → n ≤ 7301442 → GX l G M_L_law (g_phS Q Z) k n pc L [.int v] h (some (v, h))) {kb4 nb4 : Nat} {kb247 nb247 : Nat} {K4 : gH → Int32 → Int32 → Option (Int32 × gH)} {K247 : gH → Int32 → Int32 → Nat → Nat → Nat → Nat → Nat → Int32 → Int32 → Option (Int32 × gH)} (hkb4 : kb4 + 9458 ≤ 28374) (hnb4 : nb4 + 56546 ≤ 169638) (hkb247 : kb247 + 313 ≤ kb4 + 9261) (hnb247 : nb247 + 1527 ≤ nb4 + 55363) (hK4 : ∀ (h : gH) (l1 : Int32) (l2 : Int32), GX l G M_L_law (g_phS Q Z) (kb4 + 9458) (nb4 + 56546) 4 [some (.ref b), some (.int l1), some (.int l2), none, none, none, none, none, none, none, none, none, none, none, none, none, none, none, none, none, none, none, none, none, none] [] h (K4 h l1 l2)) (hK247 : ∀ (h : gH) (l1 : Int32) (l2 : Int32) (l3 : Nat) (l4 : Nat) (l5 : Nat) (l6 : Nat) (l7 : Nat) (l8 : Int32) (l9 : Int32), GX l G M_L_law (g_phS Q Z) (kb247 + 313) (nb247 + 1527) 247 [some (.ref b), some (.int l1), some (.int l2), some (.ref l3), some (.ref l4), some (.ref l5), some (.ref l6), some (.ref l7), some (.int l8), some (.int l9), none, none, none, none, none, none, none, none, none, none, none, none, none, none, none] [] h (K247 h l1 l2 l3 l4 l5 l6 l7 l8 l9)) (h : gH) (l2 : Int32) (l3 : Nat) (l4 : Nat) (l5 : Nat) (l6 : Nat) (l7 : Nat) (l8 : Int32) (l9 : Int32) (l10 : Nat) (l11 : Int32) (s0 : Int32) : GX l G M_L_law (g_phS Q Z) (kb247 + 220) (nb247 + 815) 1158 [some (.ref b), none, some (.int l2), some (.ref l3), some (.ref l4), some (.ref l5), some (.ref l6), some (.ref l7), some (.int l8), some (.int l9), some (.ref l10), some (.int l11), none, none, none, none, none, none, none, none, none, none, none, none, none] [.int s0] h (f_L_law_b1158 G xs N K4 K247 h l2 l3 l4 l5 l6 l7 l8 l9 l10 l11 s0) := by
  unfold f_L_law_b1158
  refine X_istore_n rfl rfl rfl rfl ?_
  refine X_wid (k' := kb247 + 294) (n' := nb247 + 1413) (by omega) (by omega) ?_
  exact X_sub (g_sub_s (g_sub_s (g_sub_s (g_sub_s (g_sub_s (g_sub_s (g_sub_s (g_sub_s (g_sub_s (g_sub_s (g_sub_s (g_sub_s (g_sub_n (g_sub_n (g_sub_n (g_sub_n (g_sub_n (g_sub_n (g_sub_n (g_sub_n (g_sub_n (g_sub_n (g_sub_n (g_sub_n (g_sub_n g_sub_0))))))))))))))))))))))))) (b_L_law_b1159 hl hX hret hkb4 hnb4 hkb247 hnb247 hK4 hK247 _ _ _ _ _ _ _ _ _ _ _ _)
set_option maxRecDepth 100000 in
theorem b_L_law_b1157 {l : Launch} {G : gG} (hl : l.stackTraces = false) {Q : State → Array Value → List Frame → Prop} {Z : State → Prop} {b N : Nat} {xs : Nat → Int32} (hX : g_scr G Q b N xs) (hret : ∀ (pc : Nat) (L : List (Option Value)) (h : gH) (k n : Nat) (v : Int32), decode code pc = .ok (.ireturn, 1) → k ≤ 600086 → n ≤ 7301442 → GX l G M_L_law (g_phS Q Z) k n pc L [.int v] h (some (v, h))) {kb4 nb4 : Nat} {kb247 nb247 : Nat} {K4 : gH → Int32 → Int32 → Option (Int32 × gH)} {K247 : gH → Int32 → Int32 → Nat → Nat → Nat → Nat → Nat → Int32 → Int32 → Option (Int32 × gH)} (hkb4 : kb4 + 9458 ≤ 28374) (hnb4 : nb4 + 56546 ≤ 169638) (hkb247 : kb247 + 313 ≤ kb4 + 9261) (hnb247 : nb247 + 1527 ≤ nb4 + 55363) (hK4 : ∀ (h : gH) (l1 : Int32) (l2 : Int32), GX l G M_L_law (g_phS Q Z) (kb4 + 9458) (nb4 + 56546) 4 [some (.ref b), some (.int l1), some (.int l2), none, none, none, none, none, none, none, none, none, none, none, none, none, none, none, none, none, none, none, none, none, none] [] h (K4 h l1 l2)) (hK247 : ∀ (h : gH) (l1 : Int32) (l2 : Int32) (l3 : Nat) (l4 : Nat) (l5 : Nat) (l6 : Nat) (l7 : Nat) (l8 : Int32) (l9 : Int32), GX l G M_L_law (g_phS Q Z) (kb247 + 313) (nb247 + 1527) 247 [some (.ref b), some (.int l1), some (.int l2), some (.ref l3), some (.ref l4), some (.ref l5), some (.ref l6), some (.ref l7), some (.int l8), some (.int l9), none, none, none, none, none, none, none, none, none, none, none, none, none, none, none] [] h (K247 h l1 l2 l3 l4 l5 l6 l7 l8 l9)) (h : gH) (l2 : Int32) (l3 : Nat) (l4 : Nat) (l5 : Nat) (l6 : Nat) (l7 : Nat) (l8 : Int32) (l9 : Int32) (l10 : Nat) (l11 : Int32) : GX l G M_L_law (g_phS Q Z) (kb247 + 220) (nb247 + 815) 1157 [some (.ref b), none, some (.int l2), some (.ref l3), some (.ref l4), some (.ref l5), some (.ref l6), some (.ref l7), some (.int l8), some (.int l9), some (.ref l10), some (.int l11), none, none, none, none, none, none, none, none, none, none, none, none, none] [] h (f_L_law_b1157 G xs N K4 K247 h l2 l3 l4 l5 l6 l7 l8 l9 l10 l11) := by
  unfold f_L_law_b1157
  refine X_iconst (v := 0) rfl rfl (by decide) ?_
  exact X_sub (g_sub_s (g_sub_n (g_sub_s (g_sub_s (g_sub_s (g_sub_s (g_sub_s (g_sub_s (g_sub_s (g_sub_s (g_sub_s (g_sub_s (g_sub_n (g_sub_n (g_sub_n (g_sub_n (g_sub_n (g_sub_n (g_sub_n (g_sub_n (g_sub_n (g_sub_n (g_sub_n (g_sub_n (g_sub_n g_sub_0))))))))))))))))))))))))) (b_L_law_b1158 hl hX hret hkb4 hnb4 hkb247 hnb247 hK4 hK247 _ _ _ _ _ _ _ _ _ _ _ _)
set_option maxRecDepth 100000 in
theorem b_L_law_b247 {l : Launch} {G : gG} (hl : l.stackTraces = false) {Q : State → Array Value → List Frame → Prop} {Z : State → Prop} {b N : Nat} {xs : Nat → Int32} (hX : g_scr G Q b N xs) (hret : ∀ (pc : Nat) (L : List (Option Value)) (h : gH) (k n : Nat) (v : Int32), decode code pc = .ok (.ireturn, 1) → k ≤ 600086 → n ≤ 7301442 → GX l G M_L_law (g_phS Q Z) k n pc L [.int v] h (some (v, h))) {kb4 nb4 : Nat} {K4 : gH → Int32 → Int32 → Option (Int32 × gH)} (hkb4 : kb4 + 9458 ≤ 28374) (hnb4 : nb4 + 56546 ≤ 169638) (hK4 : ∀ (h : gH) (l1 : Int32) (l2 : Int32), GX l G M_L_law (g_phS Q Z) (kb4 + 9458) (nb4 + 56546) 4 [some (.ref b), some (.int l1), some (.int l2), none, none, none, none, none, none, none, none, none, none, none, none, none, none, none, none, none, none, none, none, none, none] [] h (K4 h l1 l2)) : ∀ (n kb247 nb247 : Nat), kb247 + n * 313 ≤ kb4 + 9261 → nb247 + n * 1527 ≤ nb4 + 55363 → ∀ (h : gH) (l1 : Int32) (l2 : Int32) (l3 : Nat) (l4 : Nat) (l5 : Nat) (l6 : Nat) (l7 : Nat) (l8 : Int32) (l9 : Int32), GX l G M_L_law (g_phS Q Z) kb247 nb247 247 [some (.ref b), some (.int l1), some (.int l2), some (.ref l3), some (.ref l4), some (.ref l5), some (.ref l6), some (.ref l7), some (.int l8), some (.int l9), none, none, none, none, none, none, none, none, none, none, none, none, none, none, none] [] h (f_L_law_b247 G xs N K4 n h l1 l2 l3 l4 l5 l6 l7 l8 l9) := by
  intro n
  induction n with
  | zero => intros; exact X_none
  | succ n ih =>
    intro kb247 nb247 hk0 hn0 h l1 l2 l3 l4 l5 l6 l7 l8 l9
    have hkb247 : kb247 + 313 ≤ kb4 + 9261 := by omega
    have hnb247 : nb247 + 1527 ≤ nb4 + 55363 := by omega
    rw [f_L_law_b247]
    refine X_iload rfl rfl rfl ?_
    refine X_bipush (v := 24) rfl rfl (by decide) ?_
    refine X_bicmp_ge rfl rfl (fun _ => ?_) (fun _ => ?_)
    · refine X_iload_n rfl rfl rfl ?_
      refine X_bif_eq rfl rfl (fun _ => ?_) (fun _ => ?_)
      · refine X_wid (k' := kb4 + 9261) (n' := nb4 + 55363) (by omega) (by omega) ?_
        exact X_sub (g_sub_s (g_sub_s (g_sub_s (g_sub_s (g_sub_n (g_sub_n (g_sub_n (g_sub_s (g_sub_s (g_sub_n (g_sub_n (g_sub_n (g_sub_n (g_sub_n (g_sub_n (g_sub_n (g_sub_n (g_sub_n (g_sub_n (g_sub_n (g_sub_n (g_sub_n (g_sub_n (g_sub_n (g_sub_n g_sub_0))))))))))))))))))))))))) (b_L_law_b1225 hl hX hret hkb4 hnb4 hK4 _ _ _ _ _ _)
      · refine X_aload rfl rfl rfl ?_
        refine X_kV_A (k1 := kb247 + 217) (n1 := nb247 + 797) (M' := M_X10_copy) (nA := 0) (As := []) (st := []) (b := l6) (ci := 10) rfl rfl (by decide +kernel) rfl rfl rfl rfl (by show kb247 + 217 = kb247 + 217; omega) (by show nb247 + 797 = nb247 + 797; omega) (X_ble (by show kb247 + 217 ≤ 600086; omega)) (X_ble (by show nb247 + 797 ≤ 7301442; omega)) (fun _ _ e => ct_X10_copy  e) (fun y260 => ?_)
        refine X_astore rfl rfl rfl rfl ?_
        refine X_iconst (v := 1) rfl rfl (by decide) ?_
        refine X_istore rfl rfl rfl rfl ?_
        refine X_aload rfl rfl rfl ?_
        refine X_iconst (v := 2) rfl rfl (by decide) ?_
        refine X_kV_I (k1 := kb247 + 217) (n1 := nb247 + 797) (M' := M_X11_below) (nA := 1) (As := [.int 2]) (st := []) (b := l5) (ci := 11) rfl rfl (by decide +kernel) rfl rfl rfl rfl (by show kb247 + 217 + 0 = kb247 + 217; omega) (by show nb247 + 797 + 0 = nb247 + 797; omega) (X_ble (by show kb247 + 217 ≤ 600086; omega)) (X_ble (by show nb247 + 797 ≤ 7301442; omega)) (fun _ _ e => ct_X11_below  e) (fun y271 => ?_)
        refine X_istore rfl rfl rfl rfl ?_
        refine X_aload rfl rfl rfl ?_
        refine X_bipush (v := 9) rfl rfl (by decide) ?_
        refine X_kV_I (k1 := kb247 + 217) (n1 := nb247 + 797) (M' := M_X11_below) (nA := 1) (As := [.int 9]) (st := []) (b := l5) (ci := 11) rfl rfl (by decide +kernel) rfl rfl rfl rfl (by show kb247 + 217 + 0 = kb247 + 217; omega) (by show nb247 + 797 + 0 = nb247 + 797; omega) (X_ble (by show kb247 + 217 ≤ 600086; omega)) (X_ble (by show nb247 + 797 ≤ 7301442; omega)) (fun _ _ e => ct_X11_below  e) (fun y280 => ?_)
        refine X_if (fun c283_0 => ?_) (fun c283_0 => ?_)
        · refine X_tswIn (v := 0) (len := 45) (tgt := 328) (off := 45) rfl rfl c283_0 (by decide) (by decide) rfl rfl ?_
          refine X_iconst (v := 1) rfl rfl (by decide) ?_
          refine X_aload rfl rfl rfl ?_
          refine X_bipush (v := 12) rfl rfl (by decide) ?_
          refine X_kV_I (k1 := kb247 + 217) (n1 := nb247 + 797) (M' := M_X11_below) (nA := 1) (As := [.int 12]) (st := [.int 1]) (b := l5) (ci := 11) rfl rfl (by decide +kernel) rfl rfl rfl rfl (by show kb247 + 217 + 0 = kb247 + 217; omega) (by show nb247 + 797 + 0 = nb247 + 797; omega) (X_ble (by show kb247 + 217 ≤ 600086; omega)) (X_ble (by show nb247 + 797 ≤ 7301442; omega)) (fun _ _ e => ct_X11_below  e) (fun y333 => ?_)
          refine X_iadd rfl rfl ?_
          refine X_istore rfl rfl rfl rfl ?_
          refine X_iconst (v := 0) rfl rfl (by decide) ?_
          refine X_istore rfl rfl rfl rfl ?_
          refine X_iconst (v := 0) rfl rfl (by decide) ?_
          refine X_istore rfl rfl rfl rfl ?_
          exact X_sub (g_sub_s (g_sub_n (g_sub_s (g_sub_s (g_sub_s (g_sub_s (g_sub_s (g_sub_s (g_sub_s (g_sub_s (g_sub_s (g_sub_s (g_sub_n (g_sub_s (g_sub_s (g_sub_s (g_sub_n (g_sub_n (g_sub_n (g_sub_n (g_sub_n (g_sub_n (g_sub_n (g_sub_n (g_sub_n g_sub_0))))))))))))))))))))))))) (b_L_law_b345 hl hX hret hkb4 hnb4 hkb247 hnb247 hK4 (ih _ _ (by omega) (by omega)) g_N _ _ _ _ _ _ _ _ _ _ _ _ _ _)
        · refine X_if (fun c283_1 => ?_) (fun c283_1 => ?_)
          · refine X_tswIn (v := 1) (len := 45) (tgt := 328) (off := 45) rfl rfl c283_1 (by decide) (by decide) rfl rfl ?_
            refine X_iconst (v := 1) rfl rfl (by decide) ?_
            refine X_aload rfl rfl rfl ?_
            refine X_bipush (v := 12) rfl rfl (by decide) ?_
            refine X_kV_I (k1 := kb247 + 217) (n1 := nb247 + 797) (M' := M_X11_below) (nA := 1) (As := [.int 12]) (st := [.int 1]) (b := l5) (ci := 11) rfl rfl (by decide +kernel) rfl rfl rfl rfl (by show kb247 + 217 + 0 = kb247 + 217; omega) (by show nb247 + 797 + 0 = nb247 + 797; omega) (X_ble (by show kb247 + 217 ≤ 600086; omega)) (X_ble (by show nb247 + 797 ≤ 7301442; omega)) (fun _ _ e => ct_X11_below  e) (fun y333 => ?_)
            refine X_iadd rfl rfl ?_
            refine X_istore rfl rfl rfl rfl ?_
            refine X_iconst (v := 0) rfl rfl (by decide) ?_
            refine X_istore rfl rfl rfl rfl ?_
            refine X_iconst (v := 0) rfl rfl (by decide) ?_
            refine X_istore rfl rfl rfl rfl ?_
            exact X_sub (g_sub_s (g_sub_n (g_sub_s (g_sub_s (g_sub_s (g_sub_s (g_sub_s (g_sub_s (g_sub_s (g_sub_s (g_sub_s (g_sub_s (g_sub_n (g_sub_s (g_sub_s (g_sub_s (g_sub_n (g_sub_n (g_sub_n (g_sub_n (g_sub_n (g_sub_n (g_sub_n (g_sub_n (g_sub_n g_sub_0))))))))))))))))))))))))) (b_L_law_b345 hl hX hret hkb4 hnb4 hkb247 hnb247 hK4 (ih _ _ (by omega) (by omega)) g_N _ _ _ _ _ _ _ _ _ _ _ _ _ _)
          · refine X_if (fun c283_2 => ?_) (fun c283_2 => ?_)
            · refine X_tswIn (v := 2) (len := 45) (tgt := 328) (off := 45) rfl rfl c283_2 (by decide) (by decide) rfl rfl ?_
              refine X_iconst (v := 1) rfl rfl (by decide) ?_
              refine X_aload rfl rfl rfl ?_
              refine X_bipush (v := 12) rfl rfl (by decide) ?_
              refine X_kV_I (k1 := kb247 + 217) (n1 := nb247 + 797) (M' := M_X11_below) (nA := 1) (As := [.int 12]) (st := [.int 1]) (b := l5) (ci := 11) rfl rfl (by decide +kernel) rfl rfl rfl rfl (by show kb247 + 217 + 0 = kb247 + 217; omega) (by show nb247 + 797 + 0 = nb247 + 797; omega) (X_ble (by show kb247 + 217 ≤ 600086; omega)) (X_ble (by show nb247 + 797 ≤ 7301442; omega)) (fun _ _ e => ct_X11_below  e) (fun y333 => ?_)
              refine X_iadd rfl rfl ?_
              refine X_istore rfl rfl rfl rfl ?_
              refine X_iconst (v := 0) rfl rfl (by decide) ?_
              refine X_istore rfl rfl rfl rfl ?_
              refine X_iconst (v := 0) rfl rfl (by decide) ?_
              refine X_istore rfl rfl rfl rfl ?_
              exact X_sub (g_sub_s (g_sub_n (g_sub_s (g_sub_s (g_sub_s (g_sub_s (g_sub_s (g_sub_s (g_sub_s (g_sub_s (g_sub_s (g_sub_s (g_sub_n (g_sub_s (g_sub_s (g_sub_s (g_sub_n (g_sub_n (g_sub_n (g_sub_n (g_sub_n (g_sub_n (g_sub_n (g_sub_n (g_sub_n g_sub_0))))))))))))))))))))))))) (b_L_law_b345 hl hX hret hkb4 hnb4 hkb247 hnb247 hK4 (ih _ _ (by omega) (by omega)) g_N _ _ _ _ _ _ _ _ _ _ _ _ _ _)
            · refine X_if (fun c283_3 => ?_) (fun c283_3 => ?_)
              · refine X_tswIn (v := 3) (len := 45) (tgt := 388) (off := 105) rfl rfl c283_3 (by decide) (by decide) rfl rfl ?_
                refine X_aload rfl rfl rfl ?_
                refine X_kS_A (k1 := kb247 + 269) (n1 := nb247 + 1317) (M' := M_L_randomWord) (nA := 1) (As := [.ref l5]) (st := []) rfl rfl (by decide +kernel) rfl rfl rfl (by show kb247 + 217 + 52 = kb247 + 269; omega) (by show nb247 + 797 + 520 = nb247 + 1317; omega) (X_ble (by show kb247 + 269 ≤ 600086; omega)) (X_ble (by show nb247 + 1317 ≤ 7301442; omega)) (fun _ _ e => ct_L_randomWord  e) (fun y390 => ?_)
                refine X_astore rfl rfl rfl rfl ?_
                refine X_aload rfl rfl rfl ?_
                refine X_getA rfl rfl (fun v397 => ?_)
                refine X_aln rfl rfl (fun v400 => ?_)
                refine X_bipush (v := 8) rfl rfl (by decide) ?_
                refine X_bicmp_ge rfl rfl (fun _ => ?_) (fun _ => ?_)
                · refine X_iconst (v := 1) rfl rfl (by decide) ?_
                  refine X_goto rfl rfl ?_
                  exact X_sub (g_sub_s (g_sub_n (g_sub_s (g_sub_s (g_sub_s (g_sub_s (g_sub_s (g_sub_s (g_sub_s (g_sub_s (g_sub_s (g_sub_n (g_sub_s (g_sub_n (g_sub_n (g_sub_s (g_sub_n (g_sub_n (g_sub_n (g_sub_n (g_sub_n (g_sub_n (g_sub_n (g_sub_n (g_sub_n g_sub_0))))))))))))))))))))))))) (b_L_law_b411 hl hX hret hkb4 hnb4 hkb247 hnb247 hK4 (ih _ _ (by omega) (by omega)) _ _ _ _ _ _ _ _ _ _ _ _ _)
                · refine X_iconst (v := 0) rfl rfl (by decide) ?_
                  exact X_sub (g_sub_s (g_sub_n (g_sub_s (g_sub_s (g_sub_s (g_sub_s (g_sub_s (g_sub_s (g_sub_s (g_sub_s (g_sub_s (g_sub_n (g_sub_s (g_sub_n (g_sub_n (g_sub_s (g_sub_n (g_sub_n (g_sub_n (g_sub_n (g_sub_n (g_sub_n (g_sub_n (g_sub_n (g_sub_n g_sub_0))))))))))))))))))))))))) (b_L_law_b411 hl hX hret hkb4 hnb4 hkb247 hnb247 hK4 (ih _ _ (by omega) (by omega)) _ _ _ _ _ _ _ _ _ _ _ _ _)
              · refine X_if (fun c283_4 => ?_) (fun c283_4 => ?_)
                · refine X_tswIn (v := 4) (len := 45) (tgt := 502) (off := 219) rfl rfl c283_4 (by decide) (by decide) rfl rfl ?_
                  refine X_aload rfl rfl rfl ?_
                  refine X_bipush (v := 11) rfl rfl (by decide) ?_
                  refine X_kV_I (k1 := kb247 + 217) (n1 := nb247 + 797) (M' := M_X11_below) (nA := 1) (As := [.int 11]) (st := []) (b := l5) (ci := 11) rfl rfl (by decide +kernel) rfl rfl rfl rfl (by show kb247 + 217 + 0 = kb247 + 217; omega) (by show nb247 + 797 + 0 = nb247 + 797; omega) (X_ble (by show kb247 + 217 ≤ 600086; omega)) (X_ble (by show nb247 + 797 ≤ 7301442; omega)) (fun _ _ e => ct_X11_below  e) (fun y506 => ?_)
                  refine X_istore rfl rfl rfl rfl ?_
                  refine X_iload rfl rfl rfl ?_
                  refine X_bipush (v := 10) rfl rfl (by decide) ?_
                  refine X_bicmp_ge rfl rfl (fun _ => ?_) (fun _ => ?_)
                  · refine X_aload rfl rfl rfl ?_
                    refine X_getA rfl rfl (fun v520 => ?_)
                    refine X_aln rfl rfl (fun v523 => ?_)
                    refine X_bipush (v := 12) rfl rfl (by decide) ?_
                    refine X_bicmp_ge rfl rfl (fun _ => ?_) (fun _ => ?_)
                    · refine X_iconst (v := 1) rfl rfl (by decide) ?_
                      refine X_goto rfl rfl ?_
                      exact X_sub (g_sub_s (g_sub_n (g_sub_s (g_sub_s (g_sub_s (g_sub_s (g_sub_s (g_sub_s (g_sub_s (g_sub_s (g_sub_s (g_sub_n (g_sub_n (g_sub_n (g_sub_n (g_sub_n (g_sub_s (g_sub_n (g_sub_n (g_sub_n (g_sub_n (g_sub_n (g_sub_n (g_sub_n (g_sub_n g_sub_0))))))))))))))))))))))))) (b_L_law_b534 hl hX hret hkb4 hnb4 hkb247 hnb247 hK4 (ih _ _ (by omega) (by omega)) _ _ _ _ _ _ _ _ _ _ _ _)
                    · exact X_sub (g_sub_s (g_sub_n (g_sub_s (g_sub_s (g_sub_s (g_sub_s (g_sub_s (g_sub_s (g_sub_s (g_sub_s (g_sub_s (g_sub_n (g_sub_n (g_sub_n (g_sub_n (g_sub_n (g_sub_s (g_sub_n (g_sub_n (g_sub_n (g_sub_n (g_sub_n (g_sub_n (g_sub_n (g_sub_n g_sub_0))))))))))))))))))))))))) (b_L_law_b533 hl hX hret hkb4 hnb4 hkb247 hnb247 hK4 (ih _ _ (by omega) (by omega)) _ _ _ _ _ _ _ _ _ _ _)
                  · exact X_sub (g_sub_s (g_sub_n (g_sub_s (g_sub_s (g_sub_s (g_sub_s (g_sub_s (g_sub_s (g_sub_s (g_sub_s (g_sub_s (g_sub_n (g_sub_n (g_sub_n (g_sub_n (g_sub_n (g_sub_s (g_sub_n (g_sub_n (g_sub_n (g_sub_n (g_sub_n (g_sub_n (g_sub_n (g_sub_n g_sub_0))))))))))))))))))))))))) (b_L_law_b533 hl hX hret hkb4 hnb4 hkb247 hnb247 hK4 (ih _ _ (by omega) (by omega)) _ _ _ _ _ _ _ _ _ _ _)
                · refine X_if (fun c283_5 => ?_) (fun c283_5 => ?_)
                  · refine X_tswIn (v := 5) (len := 45) (tgt := 640) (off := 357) rfl rfl c283_5 (by decide) (by decide) rfl rfl ?_
                    refine X_aload rfl rfl rfl ?_
                    refine X_bipush (v := 27) rfl rfl (by decide) ?_
                    refine X_kV_I (k1 := kb247 + 217) (n1 := nb247 + 797) (M' := M_X11_below) (nA := 1) (As := [.int 27]) (st := []) (b := l5) (ci := 11) rfl rfl (by decide +kernel) rfl rfl rfl rfl (by show kb247 + 217 + 0 = kb247 + 217; omega) (by show nb247 + 797 + 0 = nb247 + 797; omega) (X_ble (by show kb247 + 217 ≤ 600086; omega)) (X_ble (by show nb247 + 797 ≤ 7301442; omega)) (fun _ _ e => ct_X11_below  e) (fun y644 => ?_)
                    refine X_istore rfl rfl rfl rfl ?_
                    refine X_aload rfl rfl rfl ?_
                    refine X_iload rfl rfl rfl ?_
                    refine X_aload rfl rfl rfl ?_
                    refine X_getI rfl rfl (fun v655 => ?_)
                    refine X_callV_IR (M' := M_X10_key) (nA := 2) (As := [.int y271.1, .int v655]) (st := []) (b := l6) (ci := 10) rfl rfl (by decide +kernel) rfl rfl rfl rfl rfl rfl (X_ble (by show kb247 + 217 ≤ 600086; omega)) (X_ble (by show nb247 + 797 ≤ 7301442; omega)) (fun _ e => ct_X10_key  e) (fun v658 => ?_)
                    refine X_istore rfl rfl rfl rfl ?_
                    refine X_iconst (v := -1) rfl rfl (by decide) ?_
                    refine X_istore rfl rfl rfl rfl ?_
                    refine X_iconst (v := 0) rfl rfl (by decide) ?_
                    refine X_istore rfl rfl rfl rfl ?_
                    refine X_iconst (v := 0) rfl rfl (by decide) ?_
                    refine X_istore rfl rfl rfl rfl ?_
                    exact X_sub (g_sub_s (g_sub_n (g_sub_s (g_sub_s (g_sub_s (g_sub_s (g_sub_s (g_sub_s (g_sub_s (g_sub_s (g_sub_s (g_sub_n (g_sub_s (g_sub_n (g_sub_n (g_sub_n (g_sub_n (g_sub_s (g_sub_s (g_sub_s (g_sub_s (g_sub_s (g_sub_n (g_sub_n (g_sub_n g_sub_0))))))))))))))))))))))))) (b_L_law_b672 hl hX hret hkb4 hnb4 hkb247 hnb247 hK4 (ih _ _ (by omega) (by omega)) g_N _ _ _ _ _ _ _ _ _ _ _ _ _ _ _ _)
                  · refine X_if (fun c283_6 => ?_) (fun c283_6 => ?_)
                    · refine X_tswIn (v := 6) (len := 45) (tgt := 886) (off := 603) rfl rfl c283_6 (by decide) (by decide) rfl rfl ?_
                      refine X_aload rfl rfl rfl ?_
                      refine X_bipush (v := 11) rfl rfl (by decide) ?_
                      refine X_kV_I (k1 := kb247 + 217) (n1 := nb247 + 797) (M' := M_X11_below) (nA := 1) (As := [.int 11]) (st := []) (b := l5) (ci := 11) rfl rfl (by decide +kernel) rfl rfl rfl rfl (by show kb247 + 217 + 0 = kb247 + 217; omega) (by show nb247 + 797 + 0 = nb247 + 797; omega) (X_ble (by show kb247 + 217 ≤ 600086; omega)) (X_ble (by show nb247 + 797 ≤ 7301442; omega)) (fun _ _ e => ct_X11_below  e) (fun y890 => ?_)
                      refine X_istore rfl rfl rfl rfl ?_
                      refine X_iload rfl rfl rfl ?_
                      refine X_bipush (v := 10) rfl rfl (by decide) ?_
                      refine X_bicmp_ge rfl rfl (fun _ => ?_) (fun _ => ?_)
                      · refine X_iconst (v := 1) rfl rfl (by decide) ?_
                        refine X_goto rfl rfl ?_
                        exact X_sub (g_sub_s (g_sub_n (g_sub_s (g_sub_s (g_sub_s (g_sub_s (g_sub_s (g_sub_s (g_sub_s (g_sub_s (g_sub_s (g_sub_n (g_sub_s (g_sub_n (g_sub_n (g_sub_n (g_sub_n (g_sub_n (g_sub_n (g_sub_n (g_sub_n (g_sub_s (g_sub_n (g_sub_n (g_sub_n g_sub_0))))))))))))))))))))))))) (b_L_law_b907 hl hX hret hkb4 hnb4 hkb247 hnb247 hK4 (ih _ _ (by omega) (by omega)) _ _ _ _ _ _ _ _ _ _ _ _ _)
                      · refine X_iconst (v := 0) rfl rfl (by decide) ?_
                        exact X_sub (g_sub_s (g_sub_n (g_sub_s (g_sub_s (g_sub_s (g_sub_s (g_sub_s (g_sub_s (g_sub_s (g_sub_s (g_sub_s (g_sub_n (g_sub_s (g_sub_n (g_sub_n (g_sub_n (g_sub_n (g_sub_n (g_sub_n (g_sub_n (g_sub_n (g_sub_s (g_sub_n (g_sub_n (g_sub_n g_sub_0))))))))))))))))))))))))) (b_L_law_b907 hl hX hret hkb4 hnb4 hkb247 hnb247 hK4 (ih _ _ (by omega) (by omega)) _ _ _ _ _ _ _ _ _ _ _ _ _)
                    · refine X_if (fun c283_7 => ?_) (fun c283_7 => ?_)
                      · refine X_tswIn (v := 7) (len := 45) (tgt := 972) (off := 689) rfl rfl c283_7 (by decide) (by decide) rfl rfl ?_
                        refine X_aload rfl rfl rfl ?_
                        refine X_aload rfl rfl rfl ?_
                        refine X_getA rfl rfl (fun v976 => ?_)
                        refine X_aln rfl rfl (fun v979 => ?_)
                        refine X_iconst (v := 1) rfl rfl (by decide) ?_
                        refine X_iadd rfl rfl ?_
                        refine X_kV_I (k1 := kb247 + 217) (n1 := nb247 + 797) (M' := M_X11_below) (nA := 1) (As := [.int (v979 + 1)]) (st := []) (b := l5) (ci := 11) rfl rfl (by decide +kernel) rfl rfl rfl rfl (by show kb247 + 217 + 0 = kb247 + 217; omega) (by show nb247 + 797 + 0 = nb247 + 797; omega) (X_ble (by show kb247 + 217 ≤ 600086; omega)) (X_ble (by show nb247 + 797 ≤ 7301442; omega)) (fun _ _ e => ct_X11_below  e) (fun y982 => ?_)
                        refine X_istore rfl rfl rfl rfl ?_
                        refine X_iload rfl rfl rfl ?_
                        refine X_aload rfl rfl rfl ?_
                        refine X_getA rfl rfl (fun v991 => ?_)
                        refine X_aln rfl rfl (fun v994 => ?_)
                        refine X_bicmp_ge rfl rfl (fun _ => ?_) (fun _ => ?_)
                        · refine X_iconst (v := 1) rfl rfl (by decide) ?_
                          refine X_goto rfl rfl ?_
                          exact X_sub (g_sub_s (g_sub_n (g_sub_s (g_sub_s (g_sub_s (g_sub_s (g_sub_s (g_sub_s (g_sub_s (g_sub_s (g_sub_s (g_sub_n (g_sub_n (g_sub_n (g_sub_n (g_sub_n (g_sub_n (g_sub_n (g_sub_n (g_sub_n (g_sub_n (g_sub_n (g_sub_n (g_sub_s (g_sub_n g_sub_0))))))))))))))))))))))))) (b_L_law_b1003 hl hX hret hkb4 hnb4 hkb247 hnb247 hK4 (ih _ _ (by omega) (by omega)) _ _ _ _ _ _ _ _ _ _ _ _)
                        · refine X_iconst (v := 0) rfl rfl (by decide) ?_
                          exact X_sub (g_sub_s (g_sub_n (g_sub_s (g_sub_s (g_sub_s (g_sub_s (g_sub_s (g_sub_s (g_sub_s (g_sub_s (g_sub_s (g_sub_n (g_sub_n (g_sub_n (g_sub_n (g_sub_n (g_sub_n (g_sub_n (g_sub_n (g_sub_n (g_sub_n (g_sub_n (g_sub_n (g_sub_s (g_sub_n g_sub_0))))))))))))))))))))))))) (b_L_law_b1003 hl hX hret hkb4 hnb4 hkb247 hnb247 hK4 (ih _ _ (by omega) (by omega)) _ _ _ _ _ _ _ _ _ _ _ _)
                      · refine X_tswOut (len := 45) (tgt := 1085) rfl rfl (by have := g_neI c283_0 (show Int32.toInt (0) = 0 by decide) ; have := g_neI c283_1 (show Int32.toInt (1) = 1 by decide) ; have := g_neI c283_2 (show Int32.toInt (2) = 2 by decide) ; have := g_neI c283_3 (show Int32.toInt (3) = 3 by decide) ; have := g_neI c283_4 (show Int32.toInt (4) = 4 by decide) ; have := g_neI c283_5 (show Int32.toInt (5) = 5 by decide) ; have := g_neI c283_6 (show Int32.toInt (6) = 6 by decide) ; have := g_neI c283_7 (show Int32.toInt (7) = 7 by decide); omega) rfl ?_
                        refine X_iconst (v := 0) rfl rfl (by decide) ?_
                        refine X_istore rfl rfl rfl rfl ?_
                        refine X_aload_n rfl rfl rfl ?_
                        refine X_aload rfl rfl rfl ?_
                        refine X_getA rfl rfl (fun v1091 => ?_)
                        refine X_aln rfl rfl (fun v1094 => ?_)
                        refine X_iconst (v := 0) rfl rfl (by decide) ?_
                        refine X_iconst (v := 0) rfl rfl (by decide) ?_
                        refine X_kY_I (k1 := kb247 + 218) (n1 := nb247 + 803) (M' := M_L_letter) (nA := 4) (As := [.ref l3, .int v1094, .int 0, .int 0]) (st := []) rfl rfl (by decide +kernel) rfl rfl rfl (by show kb247 + 217 + 1 = kb247 + 218; omega) (by show nb247 + 797 + 6 = nb247 + 803; omega) (X_ble (by show kb247 + 218 ≤ 600086; omega)) (X_ble (by show nb247 + 803 ≤ 7301442; omega)) (fun _ _ e => cy_L_letter hl  e) (fun y1097 => ?_)
                        refine X_ldc (v := -2000000097) rfl rfl (by decide +kernel) ?_
                        refine X_bicmp_ne rfl rfl (fun _ => ?_) (fun _ => ?_)
                        · refine X_aload_n rfl rfl rfl ?_
                          refine X_aload rfl rfl rfl ?_
                          refine X_getI rfl rfl (fun v1108 => ?_)
                          refine X_kY_I (k1 := kb247 + 219) (n1 := nb247 + 809) (M' := M_L_mist) (nA := 2) (As := [.ref l3, .int v1108]) (st := []) rfl rfl (by decide +kernel) rfl rfl rfl (by show kb247 + 218 + 1 = kb247 + 219; omega) (by show nb247 + 803 + 6 = nb247 + 809; omega) (X_ble (by show kb247 + 219 ≤ 600086; omega)) (X_ble (by show nb247 + 809 ≤ 7301442; omega)) (fun _ _ e => cy_L_mist hl  e) (fun y1111 => ?_)
                          refine X_aload rfl rfl rfl ?_
                          refine X_aload rfl rfl rfl ?_
                          refine X_getI rfl rfl (fun v1118 => ?_)
                          refine X_callV_IR (M' := M_X10_mist) (nA := 1) (As := [.int v1118]) (st := [.int y1111.1]) (b := l6) (ci := 10) rfl rfl (by decide +kernel) rfl rfl rfl rfl rfl rfl (X_ble (by show kb247 + 219 ≤ 600086; omega)) (X_ble (by show nb247 + 809 ≤ 7301442; omega)) (fun _ e => ct_X10_mist  e) (fun v1121 => ?_)
                          refine X_bicmp_ne rfl rfl (fun _ => ?_) (fun _ => ?_)
                          · refine X_aload_n rfl rfl rfl ?_
                            refine X_iload rfl rfl rfl ?_
                            refine X_aload rfl rfl rfl ?_
                            refine X_getI rfl rfl (fun v1132 => ?_)
                            refine X_kY_I (k1 := kb247 + 220) (n1 := nb247 + 815) (M' := M_L_key) (nA := 3) (As := [.ref l3, .int y271.1, .int v1132]) (st := []) rfl rfl (by decide +kernel) rfl rfl rfl (by show kb247 + 219 + 1 = kb247 + 220; omega) (by show nb247 + 809 + 6 = nb247 + 815; omega) (X_ble (by show kb247 + 220 ≤ 600086; omega)) (X_ble (by show nb247 + 815 ≤ 7301442; omega)) (fun _ _ e => cy_L_key hl  e) (fun y1135 => ?_)
                            refine X_aload rfl rfl rfl ?_
                            refine X_iload rfl rfl rfl ?_
                            refine X_aload rfl rfl rfl ?_
                            refine X_getI rfl rfl (fun v1144 => ?_)
                            refine X_callV_IR (M' := M_X10_key) (nA := 2) (As := [.int y271.1, .int v1144]) (st := [.int y1135.1]) (b := l6) (ci := 10) rfl rfl (by decide +kernel) rfl rfl rfl rfl rfl rfl (X_ble (by show kb247 + 220 ≤ 600086; omega)) (X_ble (by show nb247 + 815 ≤ 7301442; omega)) (fun _ e => ct_X10_key  e) (fun v1147 => ?_)
                            refine X_bicmp_ne rfl rfl (fun _ => ?_) (fun _ => ?_)
                            · refine X_iconst (v := 1) rfl rfl (by decide) ?_
                              refine X_goto rfl rfl ?_
                              exact X_sub (g_sub_s (g_sub_n (g_sub_s (g_sub_s (g_sub_s (g_sub_s (g_sub_s (g_sub_s (g_sub_s (g_sub_s (g_sub_s (g_sub_s (g_sub_n (g_sub_n (g_sub_n (g_sub_n (g_sub_n (g_sub_n (g_sub_n (g_sub_n (g_sub_n (g_sub_n (g_sub_n (g_sub_n (g_sub_n g_sub_0))))))))))))))))))))))))) (b_L_law_b1158 hl hX hret hkb4 hnb4 hkb247 hnb247 hK4 (ih _ _ (by omega) (by omega)) _ _ _ _ _ _ _ _ _ _ _ _)
                            · exact X_sub (g_sub_s (g_sub_n (g_sub_s (g_sub_s (g_sub_s (g_sub_s (g_sub_s (g_sub_s (g_sub_s (g_sub_s (g_sub_s (g_sub_s (g_sub_n (g_sub_n (g_sub_n (g_sub_n (g_sub_n (g_sub_n (g_sub_n (g_sub_n (g_sub_n (g_sub_n (g_sub_n (g_sub_n (g_sub_n g_sub_0))))))))))))))))))))))))) (b_L_law_b1157 hl hX hret hkb4 hnb4 hkb247 hnb247 hK4 (ih _ _ (by omega) (by omega)) _ _ _ _ _ _ _ _ _ _ _)
                          · refine X_wid (k' := kb247 + 220) (n' := nb247 + 815) (by omega) (by omega) ?_
                            exact X_sub (g_sub_s (g_sub_n (g_sub_s (g_sub_s (g_sub_s (g_sub_s (g_sub_s (g_sub_s (g_sub_s (g_sub_s (g_sub_s (g_sub_s (g_sub_n (g_sub_n (g_sub_n (g_sub_n (g_sub_n (g_sub_n (g_sub_n (g_sub_n (g_sub_n (g_sub_n (g_sub_n (g_sub_n (g_sub_n g_sub_0))))))))))))))))))))))))) (b_L_law_b1157 hl hX hret hkb4 hnb4 hkb247 hnb247 hK4 (ih _ _ (by omega) (by omega)) _ _ _ _ _ _ _ _ _ _ _)
                        · refine X_wid (k' := kb247 + 220) (n' := nb247 + 815) (by omega) (by omega) ?_
                          exact X_sub (g_sub_s (g_sub_n (g_sub_s (g_sub_s (g_sub_s (g_sub_s (g_sub_s (g_sub_s (g_sub_s (g_sub_s (g_sub_s (g_sub_s (g_sub_n (g_sub_n (g_sub_n (g_sub_n (g_sub_n (g_sub_n (g_sub_n (g_sub_n (g_sub_n (g_sub_n (g_sub_n (g_sub_n (g_sub_n g_sub_0))))))))))))))))))))))))) (b_L_law_b1157 hl hX hret hkb4 hnb4 hkb247 hnb247 hK4 (ih _ _ (by omega) (by omega)) _ _ _ _ _ _ _ _ _ _ _)
    · refine X_wid (k' := kb4 + 9261) (n' := nb4 + 55363) (by omega) (by omega) ?_
      exact X_sub (g_sub_s (g_sub_s (g_sub_s (g_sub_s (g_sub_n (g_sub_n (g_sub_n (g_sub_s (g_sub_s (g_sub_n (g_sub_n (g_sub_n (g_sub_n (g_sub_n (g_sub_n (g_sub_n (g_sub_n (g_sub_n (g_sub_n (g_sub_n (g_sub_n (g_sub_n (g_sub_n (g_sub_n (g_sub_n g_sub_0))))))))))))))))))))))))) (b_L_law_b1225 hl hX hret hkb4 hnb4 hK4 _ _ _ _ _ _)
