set_option maxRecDepth 100000 in
theorem b_L_law_b197 {l : Launch} {G : gG} (hl : l.stackTraces = false) {Q : State → Array Value → List Frame → Prop} {Z : State → Prop} {b N : Nat} {xs : Nat → Int32} (hX : g_scr G Q b N xs) (hret : ∀ (pc : Nat) (L : List (Option Value)) (h : gH) (k n : Nat) (v : Int32), decode code pc = .ok (.ireturn, 1) → k ≤ 600086 → n ≤ 7301442 → GX l G M_L_law (g_phS Q Z) k n pc L [.int v] h (some (v, h))) {kb4 nb4 : Nat} {K4 : gH → Int32 → Int32 → Option (Int32 × gH)} (hkb4 : kb4 + 9458 ≤ 28374) (hnb4 : nb4 + 56546 ≤ 169638) (hK4 : ∀ (h : gH) (l1 : Int32) (l2 : Int32), GX l G M_L_law (g_phS Q Z) (kb4 + 9458) (nb4 + 56546) 4 [some (.ref b), some (.int l1), some (.int l2), none, none, none, none, none, none, none, none, none, none, none, none, none, none, none, none, none, none, none, none, none, none] [] h (K4 h l1 l2)) (h : gH) (l2 : Int32) (l3 : Nat) (l4 : Nat) (l5 : Nat) (s0 : Int32) : GX l G M_L_law (g_phS Q Z) (kb4 + 653) (nb4 + 11932) 197 [some (.ref b), none, some (.int l2), some (.ref l3), some (.ref l4), some (.ref l5), none, none, none, none, none, none, none, none, none, none, none, none, none, none, none, none, none, none, none] [.int s0] h (f_L_law_b197 G xs N K4 h l2 l3 l4 l5 s0) := by
  unfold f_L_law_b197
  refine X_istore_n rfl rfl rfl rfl ?_
  refine X_aload_n rfl rfl rfl ?_
  refine X_aload rfl rfl rfl ?_
  refine X_aload rfl rfl rfl ?_
  refine X_kS_Q (k1 := kb4 + 1103) (n1 := nb4 + 15538) (M' := M_L_randomLine) (nA := 3) (As := [.ref l3, .ref l4, .ref l5]) (st := []) rfl rfl rl_site rfl rfl rfl (by show kb4 + 653 + 450 = kb4 + 1103; omega) (by show nb4 + 11932 + 3606 = nb4 + 15538; omega) (X_ble (by show kb4 + 1103 ≤ 600086; omega)) (X_ble (by show nb4 + 15538 ≤ 7301442; omega)) (fun _ _ e => ct_L_randomLine hl  e) (fun y203 => ?_)
  obtain ⟨q203, h203⟩ := y203
  dsimp only
  refine X_astoreQ (x := q203) rfl rfl rfl rfl ?_
  refine X_aloadQ (x := q203) rfl rfl rfl ?_
  refine X_bnonnull rfl rfl (fun _ => ?_) (fun a210 e210 => ?_)
  · refine X_iconst (v := 0) rfl rfl (by decide) ?_
    exact hret _ _ _ _ _ _ (by decide +kernel) (by show kb4 + 1103 ≤ 600086; omega) (by show nb4 + 15538 ≤ 7301442; omega)
  · subst e210
    refine X_iload_n rfl rfl rfl ?_
    refine X_bif_eq rfl rfl (fun _ => ?_) (fun _ => ?_)
    · refine X_wid (k' := kb4 + 1122) (n' := nb4 + 15652) (by omega) (by omega) ?_
      exact X_sub (g_sub_s (g_sub_n (g_sub_s (g_sub_s (g_sub_s (g_sub_s (g_sub_s (g_sub_n (g_sub_n (g_sub_n (g_sub_n (g_sub_n (g_sub_n (g_sub_n (g_sub_n (g_sub_n (g_sub_n (g_sub_n (g_sub_n (g_sub_n (g_sub_n (g_sub_n (g_sub_n (g_sub_n (g_sub_n g_sub_0))))))))))))))))))))))))) (b_L_law_b232 hl hX hret hkb4 hnb4 hK4 _ _ _ _ _ _)
    · refine X_aload_n rfl rfl rfl ?_
      refine X_aload rfl rfl rfl ?_
      refine X_kS_I (k1 := kb4 + 1122) (n1 := nb4 + 15652) (M' := M_L_agrees) (nA := 2) (As := [.ref l3, .ref a210]) (st := []) rfl rfl (by decide +kernel) rfl rfl rfl (by show kb4 + 1103 + 19 = kb4 + 1122; omega) (by show nb4 + 15538 + 114 = nb4 + 15652; omega) (X_ble (by show kb4 + 1122 ≤ 600086; omega)) (X_ble (by show nb4 + 15652 ≤ 7301442; omega)) (fun _ _ e => ct_L_agrees hl  e) (fun y222 => ?_)
      refine X_bif_eq rfl rfl (fun _ => ?_) (fun _ => ?_)
      · exact X_sub (g_sub_s (g_sub_n (g_sub_s (g_sub_s (g_sub_s (g_sub_s (g_sub_s (g_sub_n (g_sub_n (g_sub_n (g_sub_n (g_sub_n (g_sub_n (g_sub_n (g_sub_n (g_sub_n (g_sub_n (g_sub_n (g_sub_n (g_sub_n (g_sub_n (g_sub_n (g_sub_n (g_sub_n (g_sub_n g_sub_0))))))))))))))))))))))))) (b_L_law_b232 hl hX hret hkb4 hnb4 hK4 _ _ _ _ _ _)
      · refine X_iconst (v := 1) rfl rfl (by decide) ?_
        refine X_goto rfl rfl ?_
        exact X_sub (g_sub_s (g_sub_n (g_sub_s (g_sub_s (g_sub_s (g_sub_s (g_sub_s (g_sub_n (g_sub_n (g_sub_n (g_sub_n (g_sub_n (g_sub_n (g_sub_n (g_sub_n (g_sub_n (g_sub_n (g_sub_n (g_sub_n (g_sub_n (g_sub_n (g_sub_n (g_sub_n (g_sub_n (g_sub_n g_sub_0))))))))))))))))))))))))) (b_L_law_b233 hl hX hret hkb4 hnb4 hK4 _ _ _ _ _ _ _)
