set_option maxRecDepth 100000 in
theorem b_L_law_b233 {l : Launch} {G : gG} (hl : l.stackTraces = false) {Q : State → Array Value → List Frame → Prop} {Z : State → Prop} {b N : Nat} {xs : Nat → Int32} (hX : g_scr G Q b N xs) (hret : ∀ (pc : Nat) (L : List (Option Value)) (h : gH) (k n : Nat) (v : Int32), decode code pc = .ok (.ireturn, 1) → k ≤ 600086 → n ≤ 7301442 → GX l G M_L_law (g_phS Q Z) k n pc L [.int v] h (some (v, h))) {kb4 nb4 : Nat} {K4 : gH → Int32 → Int32 → Option (Int32 × gH)} (hkb4 : kb4 + 9458 ≤ 28374) (hnb4 : nb4 + 56546 ≤ 169638) (hK4 : ∀ (h : gH) (l1 : Int32) (l2 : Int32), GX l G M_L_law (g_phS Q Z) (kb4 + 9458) (nb4 + 56546) 4 [some (.ref b), some (.int l1), some (.int l2), none, none, none, none, none, none, none, none, none, none, none, none, none, none, none, none, none, none, none, none, none, none] [] h (K4 h l1 l2)) (h : gH) (l2 : Int32) (l3 : Nat) (l4 : Nat) (l5 : Nat) (l6 : Nat) (s0 : Int32) : GX l G M_L_law (g_phS Q Z) (kb4 + 1122) (nb4 + 15652) 233 [some (.ref b), none, some (.int l2), some (.ref l3), some (.ref l4), some (.ref l5), some (.ref l6), none, none, none, none, none, none, none, none, none, none, none, none, none, none, none, none, none, none] [.int s0] h (f_L_law_b233 G xs N K4 h l2 l3 l4 l5 l6 s0) := by
  unfold f_L_law_b233
  refine X_istore_n rfl rfl rfl rfl ?_
  refine X_bipush (v := 9) rfl rfl (by decide) ?_
  refine X_nwQ (t := 9) (C := "LampRelayLaw$Line") (k1 := kb4 + 1123) (n1 := nb4 + 15661) (B := 9) rfl rfl (by show kb4 + 1122 + 1 = kb4 + 1123; omega) (by show nb4 + 15652 + 9 = nb4 + 15661; omega) (by decide +kernel) (by decide +kernel) rfl rfl (X_ble (by show kb4 + 1123 ≤ 600086; omega)) (X_ble (by show nb4 + 15661 ≤ 7301442; omega)) (fun h236 => ?_)
  refine X_astore rfl rfl rfl rfl ?_
  refine X_iconst (v := 0) rfl rfl (by decide) ?_
  refine X_istore rfl rfl rfl rfl ?_
  refine X_iconst (v := 0) rfl rfl (by decide) ?_
  refine X_istore rfl rfl rfl rfl ?_
  exact X_sub (g_sub_s (g_sub_s (g_sub_s (g_sub_s (g_sub_s (g_sub_s (g_sub_s (g_sub_s (g_sub_s (g_sub_s (g_sub_n (g_sub_n (g_sub_n (g_sub_n (g_sub_n (g_sub_n (g_sub_n (g_sub_n (g_sub_n (g_sub_n (g_sub_n (g_sub_n (g_sub_n (g_sub_n (g_sub_n g_sub_0))))))))))))))))))))))))) (b_L_law_b247 hl hX hret hkb4 hnb4 hK4 26 _ _ (by omega) (by omega) _ _ _ _ _ _ _ _ _ _)
