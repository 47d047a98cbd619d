def f_X8_init (G : gG) (h : gH) (a0 : Nat) : Option gH :=
  some h
set_option maxRecDepth 100000 in
theorem ct_X8_init {l : Launch} {G : gG} {h : gH} {a0 : Nat} {h1 : gH} (e : f_X8_init G h a0 = some h1) : Ct l G M_X8_init [.ref a0] h none h1 := by
  refine Ct_of (L := [some (.ref a0)]) ok_X8_init (by decide +kernel) rfl rfl rfl (ρ := g_wU) (F := f_X8_init G h a0) ?_ e rfl
  unfold f_X8_init
  refine X_aload_n rfl rfl rfl ?_
  refine X_objInit rfl rfl (by decide +kernel) (by decide +kernel) (by decide +kernel) rfl rfl ?_
  exact X_vret rfl rfl rfl rfl rfl rfl
def f_X8_copy (G : gG) (h : gH) (a0 : Nat) : Option (Nat × gH) :=
  (g_mk h (.inr (8, g_dfl 8))).bind fun h0 =>
  (f_X8_init G h0 h.1).bind fun h4 =>
  (g_gI h4 a0 8 0).bind fun v10 =>
  (g_put h4 h.1 8 0 (.int v10)).bind fun h13 =>
  (g_gI h13 a0 8 1).bind fun v18 =>
  (g_put h13 h.1 8 1 (.int v18)).bind fun h21 =>
  some (h.1, h21)
set_option maxRecDepth 100000 in
theorem ct_X8_copy {l : Launch} {G : gG} {h : gH} {a0 : Nat} {r : Nat} {h1 : gH} (e : f_X8_copy G h a0 = some (r, h1)) : Ct l G M_X8_copy [.ref a0] h (some (.ref r)) h1 := by
  refine Ct_of (L := [some (.ref a0), none]) ok_X8_copy (by decide +kernel) rfl rfl rfl (ρ := g_wA) (F := f_X8_copy G h a0) ?_ e rfl
  unfold f_X8_copy
  refine X_newO (k1 := 1) (n1 := 2) rfl rfl rfl (by decide +kernel) rfl rfl (fun h0 => ?_)
  refine X_dup rfl rfl rfl ?_
  refine X_kI_U (k1 := 1) (n1 := 2) (M' := M_X8_init) (nA := 0) (As := []) (st := [.ref h.1]) (b := h.1) rfl rfl (by decide +kernel) rfl rfl rfl rfl rfl rfl rfl (fun _ e => ct_X8_init  e) (fun h4 => ?_)
  refine X_astore_n rfl rfl rfl rfl ?_
  refine X_aload_n rfl rfl rfl ?_
  refine X_aload_n rfl rfl rfl ?_
  refine X_getI rfl rfl (fun v10 => ?_)
  refine X_put rfl rfl rfl rfl rfl (fun h13 => ?_)
  refine X_aload_n rfl rfl rfl ?_
  refine X_aload_n rfl rfl rfl ?_
  refine X_getI rfl rfl (fun v18 => ?_)
  refine X_put rfl rfl rfl rfl rfl (fun h21 => ?_)
  refine X_aload_n rfl rfl rfl ?_
  exact X_aretA rfl rfl rfl rfl rfl rfl
def f_X9_init (G : gG) (h : gH) (a0 : Nat) : Option gH :=
  (g_put h a0 9 0 (.int 5)).bind fun h6 =>
  (g_put h6 a0 9 3 (.int (-1))).bind fun h11 =>
  (g_put h11 a0 9 4 (.int (-1))).bind fun h16 =>
  (g_nwI h16 8 8).bind fun h22 =>
  (g_put h22 a0 9 7 (.ref h16.1)).bind fun h24 =>
  some h24
set_option maxRecDepth 100000 in
theorem ct_X9_init {l : Launch} {G : gG} {h : gH} {a0 : Nat} {h1 : gH} (e : f_X9_init G h a0 = some h1) : Ct l G M_X9_init [.ref a0] h none h1 := by
  refine Ct_of (L := [some (.ref a0)]) ok_X9_init (by decide +kernel) rfl rfl rfl (ρ := g_wU) (F := f_X9_init G h a0) ?_ e rfl
  unfold f_X9_init
  refine X_aload_n rfl rfl rfl ?_
  refine X_objInit rfl rfl (by decide +kernel) (by decide +kernel) (by decide +kernel) rfl rfl ?_
  refine X_aload_n rfl rfl rfl ?_
  refine X_iconst (v := 5) rfl rfl (by decide) ?_
  refine X_put rfl rfl rfl rfl rfl (fun h6 => ?_)
  refine X_aload_n rfl rfl rfl ?_
  refine X_iconst (v := -1) rfl rfl (by decide) ?_
  refine X_put rfl rfl rfl rfl rfl (fun h11 => ?_)
  refine X_aload_n rfl rfl rfl ?_
  refine X_iconst (v := -1) rfl rfl (by decide) ?_
  refine X_put rfl rfl rfl rfl rfl (fun h16 => ?_)
  refine X_aload_n rfl rfl rfl ?_
  refine X_bipush (v := 8) rfl rfl (by decide) ?_
  refine X_nwI (k1 := 1) (n1 := 8) (B := 8) rfl rfl rfl rfl rfl rfl rfl (fun h22 => ?_)
  refine X_put rfl rfl rfl rfl rfl (fun h24 => ?_)
  exact X_vret rfl rfl rfl rfl rfl rfl
def f_X9_copy (G : gG) (h : gH) (a0 : Nat) : Option (Nat × gH) :=
  (g_mk h (.inr (9, g_dfl 9))).bind fun h0 =>
  (f_X9_init G h0 h.1).bind fun h4 =>
  (g_gI h4 a0 9 0).bind fun v10 =>
  (g_put h4 h.1 9 0 (.int v10)).bind fun h13 =>
  (g_gI h13 a0 9 1).bind fun v18 =>
  (g_put h13 h.1 9 1 (.int v18)).bind fun h21 =>
  (g_gI h21 a0 9 2).bind fun v26 =>
  (g_put h21 h.1 9 2 (.int v26)).bind fun h29 =>
  (g_gI h29 a0 9 3).bind fun v34 =>
  (g_put h29 h.1 9 3 (.int v34)).bind fun h37 =>
  (g_gI h37 a0 9 4).bind fun v42 =>
  (g_put h37 h.1 9 4 (.int v42)).bind fun h45 =>
  (g_gI h45 a0 9 5).bind fun v50 =>
  (g_z v50).bind fun _ =>
  (g_put h45 h.1 9 5 (.int v50)).bind fun h53 =>
  (g_gI h53 a0 9 6).bind fun v58 =>
  (g_put h53 h.1 9 6 (.int v58)).bind fun h61 =>
  (g_gA h61 a0 9 7).bind fun v66 =>
  (g_cln h61 v66 8).bind fun h69 =>
  (g_put h69 h.1 9 7 (.ref h61.1)).bind fun h75 =>
  (g_gI h75 a0 9 8).bind fun v80 =>
  (g_z v80).bind fun _ =>
  (g_put h75 h.1 9 8 (.int v80)).bind fun h83 =>
  some (h.1, h83)
set_option maxRecDepth 100000 in
theorem ct_X9_copy {l : Launch} {G : gG} {h : gH} {a0 : Nat} {r : Nat} {h1 : gH} (e : f_X9_copy G h a0 = some (r, h1)) : Ct l G M_X9_copy [.ref a0] h (some (.ref r)) h1 := by
  refine Ct_of (L := [some (.ref a0), none]) ok_X9_copy (by decide +kernel) rfl rfl rfl (ρ := g_wA) (F := f_X9_copy G h a0) ?_ e rfl
  unfold f_X9_copy
  refine X_newO (k1 := 1) (n1 := 9) rfl rfl rfl (by decide +kernel) rfl rfl (fun h0 => ?_)
  refine X_dup rfl rfl rfl ?_
  refine X_kI_U (k1 := 2) (n1 := 17) (M' := M_X9_init) (nA := 0) (As := []) (st := [.ref h.1]) (b := h.1) rfl rfl (by decide +kernel) rfl rfl rfl rfl rfl rfl rfl (fun _ e => ct_X9_init  e) (fun h4 => ?_)
  refine X_astore_n rfl rfl rfl rfl ?_
  refine X_aload_n rfl rfl rfl ?_
  refine X_aload_n rfl rfl rfl ?_
  refine X_getI rfl rfl (fun v10 => ?_)
  refine X_put rfl rfl rfl rfl rfl (fun h13 => ?_)
  refine X_aload_n rfl rfl rfl ?_
  refine X_aload_n rfl rfl rfl ?_
  refine X_getI rfl rfl (fun v18 => ?_)
  refine X_put rfl rfl rfl rfl rfl (fun h21 => ?_)
  refine X_aload_n rfl rfl rfl ?_
  refine X_aload_n rfl rfl rfl ?_
  refine X_getI rfl rfl (fun v26 => ?_)
  refine X_put rfl rfl rfl rfl rfl (fun h29 => ?_)
  refine X_aload_n rfl rfl rfl ?_
  refine X_aload_n rfl rfl rfl ?_
  refine X_getI rfl rfl (fun v34 => ?_)
  refine X_put rfl rfl rfl rfl rfl (fun h37 => ?_)
  refine X_aload_n rfl rfl rfl ?_
  refine X_aload_n rfl rfl rfl ?_
  refine X_getI rfl rfl (fun v42 => ?_)
  refine X_put rfl rfl rfl rfl rfl (fun h45 => ?_)
  refine X_aload_n rfl rfl rfl ?_
  refine X_aload_n rfl rfl rfl ?_
  refine X_getI rfl rfl (fun v50 => ?_)
  refine X_zv (fun zz53 => ?_)
  refine X_put rfl rfl rfl (g_znar zz53) (g_zfit zz53) (fun h53 => ?_)
  refine X_aload_n rfl rfl rfl ?_
  refine X_aload_n rfl rfl rfl ?_
  refine X_getI rfl rfl (fun v58 => ?_)
  refine X_put rfl rfl rfl rfl rfl (fun h61 => ?_)
  refine X_aload_n rfl rfl rfl ?_
  refine X_aload_n rfl rfl rfl ?_
  refine X_getA rfl rfl (fun v66 => ?_)
  refine X_cln (k1 := 3) (n1 := 25) (B := 8) (nx := 72) (n2 := 75) rfl rfl rfl rfl (by decide +kernel) rfl rfl rfl rfl rfl rfl (fun h69 => ?_)
  refine X_put rfl rfl rfl rfl rfl (fun h75 => ?_)
  refine X_aload_n rfl rfl rfl ?_
  refine X_aload_n rfl rfl rfl ?_
  refine X_getI rfl rfl (fun v80 => ?_)
  refine X_zv (fun zz83 => ?_)
  refine X_put rfl rfl rfl (g_znar zz83) (g_zfit zz83) (fun h83 => ?_)
  refine X_aload_n rfl rfl rfl ?_
  exact X_aretA rfl rfl rfl rfl rfl rfl
def f_X9_isOpen_b41 (G : gG) (h : gH) (K22 : Nat → Int32 → Int32 → Int32 → Option (Int32)) (l0 : Nat) (l1 : Int32) (l3 : Int32) (s0 : Int32) (s1 : Int32) : Option (Int32) :=
  K22 l0 l1 (s1 ||| s0) (g_rem (l3 + 1) 24)
def f_X9_isOpen_b22 (G : gG) (h : gH) : Nat → Nat → Int32 → Int32 → Int32 → Option (Int32)
  | 0, _, _, _, _ => none
  | n + 1, l0, l1, l2, l3 =>
    (g_gI h l0 9 2).bind fun v24 =>
    (if l3 = v24 then
      (g_z l2).bind fun z => some l2
    else
      (if l3 = l1 then
        f_X9_isOpen_b41 G h (f_X9_isOpen_b22 G h n) l0 l1 l3 1 l2
      else
        f_X9_isOpen_b41 G h (f_X9_isOpen_b22 G h n) l0 l1 l3 0 l2))
def f_X9_isOpen_b16 (G : gG) (h : gH) (l0 : Nat) (l1 : Int32) (s0 : Int32) : Option (Int32) :=
  (g_gI h l0 9 1).bind fun v18 =>
  f_X9_isOpen_b22 G h g_N l0 l1 s0 v18
def f_X9_isOpen (G : gG) (h : gH) (a0 : Nat) (p1 : Int32) : Option (Int32) :=
  (g_gI h a0 9 1).bind fun v1 =>
  (g_gI h a0 9 2).bind fun v5 =>
  (if v1 = v5 then
    f_X9_isOpen_b16 G h a0 p1 1
  else
    f_X9_isOpen_b16 G h a0 p1 0)
set_option maxRecDepth 100000 in
theorem b_X9_isOpen_b41 {l : Launch} {G : gG} {h : gH} {K22 : Nat → Int32 → Int32 → Int32 → Option (Int32)} (hK22 : ∀ (l0 : Nat) (l1 : Int32) (l2 : Int32) (l3 : Int32), GX l G M_X9_isOpen (g_phi G (g_rI h) (m_R M_X9_isOpen).cells (m_R M_X9_isOpen).slots) 0 0 22 [some (.ref l0), some (.int l1), some (.int l2), some (.int l3)] [] h (K22 l0 l1 l2 l3)) (l0 : Nat) (l1 : Int32) (l3 : Int32) (s0 : Int32) (s1 : Int32) : GX l G M_X9_isOpen (g_phi G (g_rI h) (m_R M_X9_isOpen).cells (m_R M_X9_isOpen).slots) 0 0 41 [some (.ref l0), some (.int l1), none, some (.int l3)] [.int s0, .int s1] h (f_X9_isOpen_b41 G h K22 l0 l1 l3 s0 s1) := by
  unfold f_X9_isOpen_b41
  refine X_ior rfl rfl ?_
  refine X_istore_n rfl rfl rfl rfl ?_
  refine X_iload_n rfl rfl rfl ?_
  refine X_iconst (v := 1) rfl rfl (by decide) ?_
  refine X_iadd rfl rfl ?_
  refine X_bipush (v := 24) rfl rfl (by decide) ?_
  refine X_irem (v := g_rem (l3 + 1) 24) rfl rfl rfl (by decide) ?_
  refine X_istore_n rfl rfl rfl rfl ?_
  refine X_goto rfl rfl ?_
  exact X_sub (g_sub_s (g_sub_s (g_sub_s (g_sub_s g_sub_0)))) (hK22 _ _ _ _)
set_option maxRecDepth 100000 in
theorem b_X9_isOpen_b22 {l : Launch} {G : gG} {h : gH} : ∀ (n : Nat) (l0 : Nat) (l1 : Int32) (l2 : Int32) (l3 : Int32), GX l G M_X9_isOpen (g_phi G (g_rI h) (m_R M_X9_isOpen).cells (m_R M_X9_isOpen).slots) 0 0 22 [some (.ref l0), some (.int l1), some (.int l2), some (.int l3)] [] h (f_X9_isOpen_b22 G h n l0 l1 l2 l3) := by
  intro n
  induction n with
  | zero => intros; exact X_none
  | succ n ih =>
    intro l0 l1 l2 l3
    rw [f_X9_isOpen_b22]
    refine X_iload_n rfl rfl rfl ?_
    refine X_aload_n rfl rfl rfl ?_
    refine X_getI rfl rfl (fun v24 => ?_)
    refine X_bicmp_eq rfl rfl (fun _ => ?_) (fun _ => ?_)
    · refine X_iload_n rfl rfl rfl ?_
      exact X_zret rfl rfl rfl ⟨_, rfl, rfl⟩ rfl rfl
    · refine X_iload_n rfl rfl rfl ?_
      refine X_iload_n rfl rfl rfl ?_
      refine X_iload_n rfl rfl rfl ?_
      refine X_bicmp_ne rfl rfl (fun _ => ?_) (fun _ => ?_)
      · refine X_iconst (v := 1) rfl rfl (by decide) ?_
        refine X_goto rfl rfl ?_
        exact X_sub (g_sub_s (g_sub_s (g_sub_n (g_sub_s g_sub_0)))) (b_X9_isOpen_b41 ih _ _ _ _ _)
      · refine X_iconst (v := 0) rfl rfl (by decide) ?_
        exact X_sub (g_sub_s (g_sub_s (g_sub_n (g_sub_s g_sub_0)))) (b_X9_isOpen_b41 ih _ _ _ _ _)
set_option maxRecDepth 100000 in
theorem b_X9_isOpen_b16 {l : Launch} {G : gG} {h : gH} (l0 : Nat) (l1 : Int32) (s0 : Int32) : GX l G M_X9_isOpen (g_phi G (g_rI h) (m_R M_X9_isOpen).cells (m_R M_X9_isOpen).slots) 0 0 16 [some (.ref l0), some (.int l1), none, none] [.int s0] h (f_X9_isOpen_b16 G h l0 l1 s0) := by
  unfold f_X9_isOpen_b16
  refine X_istore_n rfl rfl rfl rfl ?_
  refine X_aload_n rfl rfl rfl ?_
  refine X_getI rfl rfl (fun v18 => ?_)
  refine X_istore_n rfl rfl rfl rfl ?_
  exact X_sub (g_sub_s (g_sub_s (g_sub_s (g_sub_s g_sub_0)))) (b_X9_isOpen_b22 g_N _ _ _ _)
set_option maxRecDepth 100000 in
theorem ct_X9_isOpen {l : Launch} {G : gG} {h : gH} {a0 : Nat} {p1 : Int32} {r : Int32} (e : f_X9_isOpen G h a0 p1 = some r) : Ct l G M_X9_isOpen [.ref a0, .int p1] h (some (.int r)) h := by
  refine Ct_of (L := [some (.ref a0), some (.int p1), none, none]) ok_X9_isOpen (by decide +kernel) rfl rfl rfl (ρ := (g_rI h)) (F := f_X9_isOpen G h a0 p1) ?_ e rfl
  unfold f_X9_isOpen
  refine X_aload_n rfl rfl rfl ?_
  refine X_getI rfl rfl (fun v1 => ?_)
  refine X_aload_n rfl rfl rfl ?_
  refine X_getI rfl rfl (fun v5 => ?_)
  refine X_bicmp_ne rfl rfl (fun _ => ?_) (fun _ => ?_)
  · refine X_iconst (v := 1) rfl rfl (by decide) ?_
    refine X_goto rfl rfl ?_
    exact X_sub (g_sub_s (g_sub_s (g_sub_n (g_sub_n g_sub_0)))) (b_X9_isOpen_b16  _ _ _)
  · refine X_iconst (v := 0) rfl rfl (by decide) ?_
    exact X_sub (g_sub_s (g_sub_s (g_sub_n (g_sub_n g_sub_0)))) (b_X9_isOpen_b16  _ _ _)
def f_X10_init (G : gG) (h : gH) (a0 : Nat) : Option gH :=
  (g_nwQ h 7 2 2).bind fun h6 =>
  (g_mk h6 (.inr (9, g_dfl 9))).bind fun h11 =>
  (f_X9_init G h11 h6.1).bind fun h15 =>
  bif g_is h15 h6.1 9 then (g_qst h15 h.1 7 0 h6.1).bind fun h18 =>
  (g_mk h18 (.inr (9, g_dfl 9))).bind fun h21 =>
  (f_X9_init G h21 h18.1).bind fun h25 =>
  bif g_is h25 h18.1 9 then (g_qst h25 h.1 7 1 h18.1).bind fun h28 =>
  (g_put h28 a0 10 0 (.ref h.1)).bind fun h29 =>
  (g_nwQ h29 8 0 0).bind fun h34 =>
  (g_put h34 a0 10 1 (.ref h29.1)).bind fun h37 =>
  (g_nwQ h37 3 0 0).bind fun h42 =>
  (g_put h42 a0 10 2 (.ref h37.1)).bind fun h45 =>
  (g_nwQ h45 3 0 0).bind fun h50 =>
  (g_put h50 a0 10 3 (.ref h45.1)).bind fun h53 =>
  (g_put h53 a0 10 4 (.int 4)).bind fun h58 =>
  (g_put h58 a0 10 5 (.int 3)).bind fun h63 =>
  (g_put h63 a0 10 7 (.int (-1))).bind fun h68 =>
  some h68
  else none
  else none
set_option maxRecDepth 100000 in
theorem ct_X10_init {l : Launch} {G : gG} {h : gH} {a0 : Nat} {h1 : gH} (e : f_X10_init G h a0 = some h1) : Ct l G M_X10_init [.ref a0] h none h1 := by
  refine Ct_of (L := [some (.ref a0)]) ok_X10_init (by decide +kernel) rfl rfl rfl (ρ := g_wU) (F := f_X10_init G h a0) ?_ e rfl
  unfold f_X10_init
  refine X_aload_n rfl rfl rfl ?_
  refine X_objInit rfl rfl (by decide +kernel) (by decide +kernel) (by decide +kernel) rfl rfl ?_
  refine X_aload_n rfl rfl rfl ?_
  refine X_iconst (v := 2) rfl rfl (by decide) ?_
  refine X_nwQ (t := 7) (C := "LampRelayLaw$Lamp") (k1 := 1) (n1 := 2) (B := 2) rfl rfl rfl rfl (by decide +kernel) (by decide +kernel) rfl rfl rfl rfl (fun h6 => ?_)
  refine X_dup rfl rfl rfl ?_
  refine X_iconst (v := 0) rfl rfl (by decide) ?_
  refine X_newO (k1 := 2) (n1 := 11) rfl rfl rfl (by decide +kernel) rfl rfl (fun h11 => ?_)
  refine X_dup rfl rfl rfl ?_
  refine X_kIH_U (k1 := 3) (n1 := 19) (M' := M_X9_init) (nA := 0) (As := []) (st := [.ref h6.1, .int 0, .ref h.1, .ref h.1, .ref a0]) (b := h6.1) rfl rfl (by decide +kernel) rfl rfl rfl rfl rfl rfl rfl (fun _ e => ct_X9_init  e) (fun h15 => ?_)
  refine X_qst (t := 7) (ci := 9) (C := "LampRelayLaw$Lamp") rfl rfl rfl rfl (fun h18 => ?_)
  refine X_dup rfl rfl rfl ?_
  refine X_iconst (v := 1) rfl rfl (by decide) ?_
  refine X_newO (k1 := 4) (n1 := 28) rfl rfl rfl (by decide +kernel) rfl rfl (fun h21 => ?_)
  refine X_dup rfl rfl rfl ?_
  refine X_kIH_U (k1 := 5) (n1 := 36) (M' := M_X9_init) (nA := 0) (As := []) (st := [.ref h18.1, .int 1, .ref h.1, .ref h.1, .ref a0]) (b := h18.1) rfl rfl (by decide +kernel) rfl rfl rfl rfl rfl rfl rfl (fun _ e => ct_X9_init  e) (fun h25 => ?_)
  refine X_qst (t := 7) (ci := 9) (C := "LampRelayLaw$Lamp") rfl rfl rfl rfl (fun h28 => ?_)
  refine X_put rfl rfl rfl rfl rfl (fun h29 => ?_)
  refine X_aload_n rfl rfl rfl ?_
  refine X_iconst (v := 0) rfl rfl (by decide) ?_
  refine X_nwQ (t := 8) (C := "LampRelayLaw$Talk") (k1 := 6) (n1 := 36) (B := 0) rfl rfl rfl rfl (by decide +kernel) (by decide +kernel) rfl rfl rfl rfl (fun h34 => ?_)
  refine X_put rfl rfl rfl rfl rfl (fun h37 => ?_)
  refine X_aload_n rfl rfl rfl ?_
  refine X_iconst (v := 0) rfl rfl (by decide) ?_
  refine X_nwR (k1 := 7) (n1 := 36) (B := 0) rfl rfl rfl rfl (by decide +kernel) (by decide +kernel) rfl rfl rfl (fun h42 => ?_)
  refine X_put rfl rfl rfl rfl rfl (fun h45 => ?_)
  refine X_aload_n rfl rfl rfl ?_
  refine X_iconst (v := 0) rfl rfl (by decide) ?_
  refine X_nwR (k1 := 8) (n1 := 36) (B := 0) rfl rfl rfl rfl (by decide +kernel) (by decide +kernel) rfl rfl rfl (fun h50 => ?_)
  refine X_put rfl rfl rfl rfl rfl (fun h53 => ?_)
  refine X_aload_n rfl rfl rfl ?_
  refine X_iconst (v := 4) rfl rfl (by decide) ?_
  refine X_put rfl rfl rfl rfl rfl (fun h58 => ?_)
  refine X_aload_n rfl rfl rfl ?_
  refine X_iconst (v := 3) rfl rfl (by decide) ?_
  refine X_put rfl rfl rfl rfl rfl (fun h63 => ?_)
  refine X_aload_n rfl rfl rfl ?_
  refine X_iconst (v := -1) rfl rfl (by decide) ?_
  refine X_put rfl rfl rfl rfl rfl (fun h68 => ?_)
  exact X_vret rfl rfl rfl rfl rfl rfl
def f_X12_init (G : gG) (h : gH) (a0 : Nat) : Option gH :=
  (g_put h a0 12 2 (.ref (g_aK G 23))).bind fun h7 =>
  (g_nwI h7 0 0).bind fun h12 =>
  (g_put h12 a0 12 3 (.ref h7.1)).bind fun h14 =>
  (g_nwQ h14 6 0 0).bind fun h19 =>
  (g_put h19 a0 12 4 (.ref h14.1)).bind fun h22 =>
  (g_put h22 a0 12 6 (.int (-1))).bind fun h27 =>
  (g_put h27 a0 12 7 (.int (-1))).bind fun h32 =>
  some h32
set_option maxRecDepth 100000 in
theorem ct_X12_init {l : Launch} {G : gG} {h : gH} {a0 : Nat} {h1 : gH} (e : f_X12_init G h a0 = some h1) : Ct l G M_X12_init [.ref a0] h none h1 := by
  refine Ct_of (L := [some (.ref a0)]) ok_X12_init (by decide +kernel) rfl rfl rfl (ρ := g_wU) (F := f_X12_init G h a0) ?_ e rfl
  unfold f_X12_init
  refine X_aload_n rfl rfl rfl ?_
  refine X_objInit rfl rfl (by decide +kernel) (by decide +kernel) (by decide +kernel) rfl rfl ?_
  refine X_aload_n rfl rfl rfl ?_
  refine X_ldcG (i := 23) (tx := "") rfl rfl (by decide +kernel) ?_
  refine X_put rfl rfl rfl rfl rfl (fun h7 => ?_)
  refine X_aload_n rfl rfl rfl ?_
  refine X_iconst (v := 0) rfl rfl (by decide) ?_
  refine X_nwI (k1 := 1) (n1 := 0) (B := 0) rfl rfl rfl rfl rfl rfl rfl (fun h12 => ?_)
  refine X_put rfl rfl rfl rfl rfl (fun h14 => ?_)
  refine X_aload_n rfl rfl rfl ?_
  refine X_iconst (v := 0) rfl rfl (by decide) ?_
  refine X_nwQ (t := 6) (C := "LampRelayLaw$Frame") (k1 := 2) (n1 := 0) (B := 0) rfl rfl rfl rfl (by decide +kernel) (by decide +kernel) rfl rfl rfl rfl (fun h19 => ?_)
  refine X_put rfl rfl rfl rfl rfl (fun h22 => ?_)
  refine X_aload_n rfl rfl rfl ?_
  refine X_iconst (v := -1) rfl rfl (by decide) ?_
  refine X_put rfl rfl rfl rfl rfl (fun h27 => ?_)
  refine X_aload_n rfl rfl rfl ?_
  refine X_iconst (v := -1) rfl rfl (by decide) ?_
  refine X_put rfl rfl rfl rfl rfl (fun h32 => ?_)
  exact X_vret rfl rfl rfl rfl rfl rfl
def f_X12_copy_b60 (G : gG) : Nat → gH → Nat → Nat → Int32 → Option (Nat × gH)
  | 0, _, _, _, _ => none
  | n + 1, h, l0, l1, l2 =>
    (g_gA h l0 12 4).bind fun v62 =>
    (g_aln h v62).bind fun v65 =>
    (if l2 < v65 then
      (g_gA h l1 12 4).bind fun v70 =>
      (g_gA h l0 12 4).bind fun v75 =>
      (g_qld h v75 6 l2).bind fun v79 =>
      v79.bind fun v79n =>
      bif g_is h v79n 8 then
      (f_X8_copy G h v79n).bind fun y80 =>
      bif g_is y80.2 y80.1 8 then (g_qst y80.2 v70 6 l2 y80.1).bind fun h83 =>
      f_X12_copy_b60 G n h83 l0 l1 (l2 + 1)
      else none
      else none
    else
      (g_gI h l0 12 5).bind fun v92 =>
      (g_put h l1 12 5 (.int v92)).bind fun h95 =>
      (g_gI h95 l0 12 6).bind fun v100 =>
      (g_put h95 l1 12 6 (.int v100)).bind fun h103 =>
      (g_gI h103 l0 12 7).bind fun v108 =>
      (g_put h103 l1 12 7 (.int v108)).bind fun h111 =>
      some (l1, h111))
def f_X12_copy (G : gG) (h : gH) (a0 : Nat) : Option (Nat × gH) :=
  (g_mk h (.inr (12, g_dfl 12))).bind fun h0 =>
  (f_X12_init G h0 h.1).bind fun h4 =>
  (g_gI h4 a0 12 0).bind fun v10 =>
  (g_put h4 h.1 12 0 (.int v10)).bind fun h13 =>
  (g_gI h13 a0 12 1).bind fun v18 =>
  (g_put h13 h.1 12 1 (.int v18)).bind fun h21 =>
  (g_gA h21 a0 12 2).bind fun v26 =>
  (g_put h21 h.1 12 2 (.ref v26)).bind fun h29 =>
  (g_gA h29 a0 12 3).bind fun v34 =>
  (g_cln h29 v34 16).bind fun h37 =>
  (g_put h37 h.1 12 3 (.ref h29.1)).bind fun h43 =>
  (g_gA h43 a0 12 4).bind fun v48 =>
  (g_aln h43 v48).bind fun v51 =>
  (g_nwQ h43 6 v51 16).bind fun h52 =>
  (g_put h52 h.1 12 4 (.ref h43.1)).bind fun h55 =>
  f_X12_copy_b60 G 17 h55 a0 h.1 0
set_option maxRecDepth 100000 in
theorem b_X12_copy_b60 {l : Launch} {G : gG} : ∀ (n kb60 nb60 : Nat), kb60 + n * 1 ≤ 22 → nb60 + n * 2 ≤ 74 → ∀ (h : gH) (l0 : Nat) (l1 : Nat) (l2 : Int32), GX l G M_X12_copy (g_phi G g_wA (m_R M_X12_copy).cells (m_R M_X12_copy).slots) kb60 nb60 60 [some (.ref l0), some (.ref l1), some (.int l2)] [] h (f_X12_copy_b60 G n h l0 l1 l2) := by
  intro n
  induction n with
  | zero => intros; exact X_none
  | succ n ih =>
    intro kb60 nb60 hk0 hn0 h l0 l1 l2
    have hkb60 : kb60 + 1 ≤ 22 := by omega
    have hnb60 : nb60 + 2 ≤ 74 := by omega
    rw [f_X12_copy_b60]
    refine X_iload_n rfl rfl rfl ?_
    refine X_aload_n rfl rfl rfl ?_
    refine X_getA rfl rfl (fun v62 => ?_)
    refine X_aln rfl rfl (fun v65 => ?_)
    refine X_bicmp_ge rfl rfl (fun _ => ?_) (fun _ => ?_)
    · refine X_aload_n rfl rfl rfl ?_
      refine X_getA rfl rfl (fun v70 => ?_)
      refine X_iload_n rfl rfl rfl ?_
      refine X_aload_n rfl rfl rfl ?_
      refine X_getA rfl rfl (fun v75 => ?_)
      refine X_iload_n rfl rfl rfl ?_
      refine X_qld9 (t := 6) rfl rfl (by simp) (fun v79 => ?_)
      refine X_nn (fun v79n e79 => ?_)
      subst e79
      refine X_kV_A (k1 := kb60 + 1) (n1 := nb60 + 2) (M' := M_X8_copy) (nA := 0) (As := []) (st := [.int l2, .ref v70]) (b := v79n) (ci := 8) rfl rfl (by decide +kernel) rfl rfl rfl rfl (by show kb60 + 1 = kb60 + 1; omega) (by show nb60 + 2 = nb60 + 2; omega) (X_ble (by show kb60 + 1 ≤ 22; omega)) (X_ble (by show nb60 + 2 ≤ 74; omega)) (fun _ _ e => ct_X8_copy  e) (fun y80 => ?_)
      refine X_qst (t := 6) (ci := 8) (C := "LampRelayLaw$Frame") rfl rfl rfl rfl (fun h83 => ?_)
      refine X_iinc (v := l2 + 1) rfl rfl rfl (congrArg (fun z => l2 + z) (by decide : Int32.ofInt 1 = 1)) rfl ?_
      refine X_goto rfl rfl ?_
      refine X_wid (k' := kb60 + 1) (n' := nb60 + 2) (by omega) (by omega) ?_
      exact X_sub (g_sub_s (g_sub_s (g_sub_s g_sub_0))) (ih _ _ (by omega) (by omega) _ _ _ _)
    · refine X_aload_n rfl rfl rfl ?_
      refine X_aload_n rfl rfl rfl ?_
      refine X_getI rfl rfl (fun v92 => ?_)
      refine X_put rfl rfl rfl rfl rfl (fun h95 => ?_)
      refine X_aload_n rfl rfl rfl ?_
      refine X_aload_n rfl rfl rfl ?_
      refine X_getI rfl rfl (fun v100 => ?_)
      refine X_put rfl rfl rfl rfl rfl (fun h103 => ?_)
      refine X_aload_n rfl rfl rfl ?_
      refine X_aload_n rfl rfl rfl ?_
      refine X_getI rfl rfl (fun v108 => ?_)
      refine X_put rfl rfl rfl rfl rfl (fun h111 => ?_)
      refine X_aload_n rfl rfl rfl ?_
      exact X_aretA rfl rfl rfl rfl (X_ble (by show kb60 ≤ 22; omega)) (X_ble (by show nb60 ≤ 74; omega))
set_option maxRecDepth 100000 in
theorem ct_X12_copy {l : Launch} {G : gG} {h : gH} {a0 : Nat} {r : Nat} {h1 : gH} (e : f_X12_copy G h a0 = some (r, h1)) : Ct l G M_X12_copy [.ref a0] h (some (.ref r)) h1 := by
  refine Ct_of (L := [some (.ref a0), none, none]) ok_X12_copy (by decide +kernel) rfl rfl rfl (ρ := g_wA) (F := f_X12_copy G h a0) ?_ e rfl
  unfold f_X12_copy
  refine X_newO (k1 := 1) (n1 := 8) rfl rfl rfl (by decide +kernel) rfl rfl (fun h0 => ?_)
  refine X_dup rfl rfl rfl ?_
  refine X_kI_U (k1 := 3) (n1 := 8) (M' := M_X12_init) (nA := 0) (As := []) (st := [.ref h.1]) (b := h.1) rfl rfl (by decide +kernel) rfl rfl rfl rfl rfl rfl rfl (fun _ e => ct_X12_init  e) (fun h4 => ?_)
  refine X_astore_n rfl rfl rfl rfl ?_
  refine X_aload_n rfl rfl rfl ?_
  refine X_aload_n rfl rfl rfl ?_
  refine X_getI rfl rfl (fun v10 => ?_)
  refine X_put rfl rfl rfl rfl rfl (fun h13 => ?_)
  refine X_aload_n rfl rfl rfl ?_
  refine X_aload_n rfl rfl rfl ?_
  refine X_getI rfl rfl (fun v18 => ?_)
  refine X_put rfl rfl rfl rfl rfl (fun h21 => ?_)
  refine X_aload_n rfl rfl rfl ?_
  refine X_aload_n rfl rfl rfl ?_
  refine X_getA rfl rfl (fun v26 => ?_)
  refine X_put rfl rfl rfl rfl rfl (fun h29 => ?_)
  refine X_aload_n rfl rfl rfl ?_
  refine X_aload_n rfl rfl rfl ?_
  refine X_getA rfl rfl (fun v34 => ?_)
  refine X_cln (k1 := 4) (n1 := 24) (B := 16) (nx := 40) (n2 := 43) rfl rfl rfl rfl (by decide +kernel) rfl rfl rfl rfl rfl rfl (fun h37 => ?_)
  refine X_put rfl rfl rfl rfl rfl (fun h43 => ?_)
  refine X_aload_n rfl rfl rfl ?_
  refine X_aload_n rfl rfl rfl ?_
  refine X_getA rfl rfl (fun v48 => ?_)
  refine X_aln rfl rfl (fun v51 => ?_)
  refine X_nwQ (t := 6) (C := "LampRelayLaw$Frame") (k1 := 5) (n1 := 40) (B := 16) rfl rfl rfl rfl (by decide +kernel) (by decide +kernel) rfl rfl rfl rfl (fun h52 => ?_)
  refine X_put rfl rfl rfl rfl rfl (fun h55 => ?_)
  refine X_iconst (v := 0) rfl rfl (by decide) ?_
  refine X_istore_n rfl rfl rfl rfl ?_
  exact X_sub (g_sub_s (g_sub_s (g_sub_s g_sub_0))) (b_X12_copy_b60 17 _ _ (by omega) (by omega) _ _ _ _)
def f_X10_copy_b50 (G : gG) : Nat → gH → Nat → Nat → Int32 → Option (Nat × gH)
  | 0, _, _, _, _ => none
  | n + 1, h, l0, l1, l2 =>
    (g_gA h l0 10 1).bind fun v52 =>
    (g_aln h v52).bind fun v55 =>
    (if l2 < v55 then
      (g_gA h l1 10 1).bind fun v60 =>
      (g_gA h l0 10 1).bind fun v65 =>
      (g_qld h v65 8 l2).bind fun v69 =>
      v69.bind fun v69n =>
      bif g_is h v69n 12 then
      (f_X12_copy G h v69n).bind fun y70 =>
      bif g_is y70.2 y70.1 12 then (g_qst y70.2 v60 8 l2 y70.1).bind fun h73 =>
      f_X10_copy_b50 G n h73 l0 l1 (l2 + 1)
      else none
      else none
    else
      (g_gA h l0 10 2).bind fun v82 =>
      (g_put h l1 10 2 (.ref v82)).bind fun h85 =>
      (g_gA h85 l0 10 3).bind fun v90 =>
      (g_put h85 l1 10 3 (.ref v90)).bind fun h93 =>
      (g_gI h93 l0 10 4).bind fun v98 =>
      (g_put h93 l1 10 4 (.int v98)).bind fun h101 =>
      (g_gI h101 l0 10 5).bind fun v106 =>
      (g_put h101 l1 10 5 (.int v106)).bind fun h109 =>
      (g_gI h109 l0 10 6).bind fun v114 =>
      (g_put h109 l1 10 6 (.int v114)).bind fun h117 =>
      (g_gI h117 l0 10 7).bind fun v122 =>
      (g_put h117 l1 10 7 (.int v122)).bind fun h125 =>
      (g_gI h125 l0 10 8).bind fun v130 =>
      (g_put h125 l1 10 8 (.int v130)).bind fun h133 =>
      (g_gI h133 l0 10 9).bind fun v138 =>
      (g_put h133 l1 10 9 (.int v138)).bind fun h141 =>
      (g_gI h141 l0 10 10).bind fun v146 =>
      (g_put h141 l1 10 10 (.int v146)).bind fun h149 =>
      (g_gI h149 l0 10 11).bind fun v154 =>
      (g_put h149 l1 10 11 (.int v154)).bind fun h157 =>
      some (l1, h157))
def f_X10_copy_b10 (G : gG) : Nat → gH → Nat → Nat → Int32 → Option (Nat × gH)
  | 0, _, _, _, _ => none
  | n + 1, h, l0, l1, l2 =>
    (if l2 < 2 then
      (g_gA h l1 10 0).bind fun v16 =>
      (g_gA h l0 10 0).bind fun v21 =>
      (g_qld h v21 7 l2).bind fun v25 =>
      v25.bind fun v25n =>
      bif g_is h v25n 9 then
      (f_X9_copy G h v25n).bind fun y26 =>
      bif g_is y26.2 y26.1 9 then (g_qst y26.2 v16 7 l2 y26.1).bind fun h29 =>
      f_X10_copy_b10 G n h29 l0 l1 (l2 + 1)
      else none
      else none
    else
      (g_gA h l0 10 1).bind fun v38 =>
      (g_aln h v38).bind fun v41 =>
      (g_nwQ h 8 v41 8).bind fun h42 =>
      (g_put h42 l1 10 1 (.ref h.1)).bind fun h45 =>
      f_X10_copy_b50 G 9 h45 l0 l1 0)
def f_X10_copy (G : gG) (h : gH) (a0 : Nat) : Option (Nat × gH) :=
  (g_mk h (.inr (10, g_dfl 10))).bind fun h0 =>
  (f_X10_init G h0 h.1).bind fun h4 =>
  f_X10_copy_b10 G 3 h4 a0 h.1 0
set_option maxRecDepth 100000 in
theorem b_X10_copy_b50 {l : Launch} {G : gG} : ∀ (n kb50 nb50 : Nat), kb50 + n * 22 ≤ 217 → nb50 + n * 74 ≤ 797 → ∀ (h : gH) (l0 : Nat) (l1 : Nat) (l2 : Int32), GX l G M_X10_copy (g_phi G g_wA (m_R M_X10_copy).cells (m_R M_X10_copy).slots) kb50 nb50 50 [some (.ref l0), some (.ref l1), some (.int l2)] [] h (f_X10_copy_b50 G n h l0 l1 l2) := by
  intro n
  induction n with
  | zero => intros; exact X_none
  | succ n ih =>
    intro kb50 nb50 hk0 hn0 h l0 l1 l2
    have hkb50 : kb50 + 22 ≤ 217 := by omega
    have hnb50 : nb50 + 74 ≤ 797 := by omega
    rw [f_X10_copy_b50]
    refine X_iload_n rfl rfl rfl ?_
    refine X_aload_n rfl rfl rfl ?_
    refine X_getA rfl rfl (fun v52 => ?_)
    refine X_aln rfl rfl (fun v55 => ?_)
    refine X_bicmp_ge rfl rfl (fun _ => ?_) (fun _ => ?_)
    · refine X_aload_n rfl rfl rfl ?_
      refine X_getA rfl rfl (fun v60 => ?_)
      refine X_iload_n rfl rfl rfl ?_
      refine X_aload_n rfl rfl rfl ?_
      refine X_getA rfl rfl (fun v65 => ?_)
      refine X_iload_n rfl rfl rfl ?_
      refine X_qld9 (t := 8) rfl rfl (by simp) (fun v69 => ?_)
      refine X_nn (fun v69n e69 => ?_)
      subst e69
      refine X_kV_A (k1 := kb50 + 22) (n1 := nb50 + 74) (M' := M_X12_copy) (nA := 0) (As := []) (st := [.int l2, .ref v60]) (b := v69n) (ci := 12) rfl rfl (by decide +kernel) rfl rfl rfl rfl (by show kb50 + 22 = kb50 + 22; omega) (by show nb50 + 74 = nb50 + 74; omega) (X_ble (by show kb50 + 22 ≤ 217; omega)) (X_ble (by show nb50 + 74 ≤ 797; omega)) (fun _ _ e => ct_X12_copy  e) (fun y70 => ?_)
      refine X_qst (t := 8) (ci := 12) (C := "LampRelayLaw$Talk") rfl rfl rfl rfl (fun h73 => ?_)
      refine X_iinc (v := l2 + 1) rfl rfl rfl (congrArg (fun z => l2 + z) (by decide : Int32.ofInt 1 = 1)) rfl ?_
      refine X_goto rfl rfl ?_
      refine X_wid (k' := kb50 + 22) (n' := nb50 + 74) (by omega) (by omega) ?_
      exact X_sub (g_sub_s (g_sub_s (g_sub_s g_sub_0))) (ih _ _ (by omega) (by omega) _ _ _ _)
    · refine X_aload_n rfl rfl rfl ?_
      refine X_aload_n rfl rfl rfl ?_
      refine X_getA rfl rfl (fun v82 => ?_)
      refine X_put rfl rfl rfl rfl rfl (fun h85 => ?_)
      refine X_aload_n rfl rfl rfl ?_
      refine X_aload_n rfl rfl rfl ?_
      refine X_getA rfl rfl (fun v90 => ?_)
      refine X_put rfl rfl rfl rfl rfl (fun h93 => ?_)
      refine X_aload_n rfl rfl rfl ?_
      refine X_aload_n rfl rfl rfl ?_
      refine X_getI rfl rfl (fun v98 => ?_)
      refine X_put rfl rfl rfl rfl rfl (fun h101 => ?_)
      refine X_aload_n rfl rfl rfl ?_
      refine X_aload_n rfl rfl rfl ?_
      refine X_getI rfl rfl (fun v106 => ?_)
      refine X_put rfl rfl rfl rfl rfl (fun h109 => ?_)
      refine X_aload_n rfl rfl rfl ?_
      refine X_aload_n rfl rfl rfl ?_
      refine X_getI rfl rfl (fun v114 => ?_)
      refine X_put rfl rfl rfl rfl rfl (fun h117 => ?_)
      refine X_aload_n rfl rfl rfl ?_
      refine X_aload_n rfl rfl rfl ?_
      refine X_getI rfl rfl (fun v122 => ?_)
      refine X_put rfl rfl rfl rfl rfl (fun h125 => ?_)
      refine X_aload_n rfl rfl rfl ?_
      refine X_aload_n rfl rfl rfl ?_
      refine X_getI rfl rfl (fun v130 => ?_)
      refine X_put rfl rfl rfl rfl rfl (fun h133 => ?_)
      refine X_aload_n rfl rfl rfl ?_
      refine X_aload_n rfl rfl rfl ?_
      refine X_getI rfl rfl (fun v138 => ?_)
      refine X_put rfl rfl rfl rfl rfl (fun h141 => ?_)
      refine X_aload_n rfl rfl rfl ?_
      refine X_aload_n rfl rfl rfl ?_
      refine X_getI rfl rfl (fun v146 => ?_)
      refine X_put rfl rfl rfl rfl rfl (fun h149 => ?_)
      refine X_aload_n rfl rfl rfl ?_
      refine X_aload_n rfl rfl rfl ?_
      refine X_getI rfl rfl (fun v154 => ?_)
      refine X_put rfl rfl rfl rfl rfl (fun h157 => ?_)
      refine X_aload_n rfl rfl rfl ?_
      exact X_aretA rfl rfl rfl rfl (X_ble (by show kb50 ≤ 217; omega)) (X_ble (by show nb50 ≤ 797; omega))
set_option maxRecDepth 100000 in
theorem b_X10_copy_b10 {l : Launch} {G : gG} : ∀ (n kb10 nb10 : Nat), kb10 + n * 3 ≤ 18 → nb10 + n * 25 ≤ 123 → ∀ (h : gH) (l0 : Nat) (l1 : Nat) (l2 : Int32), GX l G M_X10_copy (g_phi G g_wA (m_R M_X10_copy).cells (m_R M_X10_copy).slots) kb10 nb10 10 [some (.ref l0), some (.ref l1), some (.int l2)] [] h (f_X10_copy_b10 G n h l0 l1 l2) := by
  intro n
  induction n with
  | zero => intros; exact X_none
  | succ n ih =>
    intro kb10 nb10 hk0 hn0 h l0 l1 l2
    have hkb10 : kb10 + 3 ≤ 18 := by omega
    have hnb10 : nb10 + 25 ≤ 123 := by omega
    rw [f_X10_copy_b10]
    refine X_iload_n rfl rfl rfl ?_
    refine X_iconst (v := 2) rfl rfl (by decide) ?_
    refine X_bicmp_ge rfl rfl (fun _ => ?_) (fun _ => ?_)
    · refine X_aload_n rfl rfl rfl ?_
      refine X_getA rfl rfl (fun v16 => ?_)
      refine X_iload_n rfl rfl rfl ?_
      refine X_aload_n rfl rfl rfl ?_
      refine X_getA rfl rfl (fun v21 => ?_)
      refine X_iload_n rfl rfl rfl ?_
      refine X_qld9 (t := 7) rfl rfl (by simp) (fun v25 => ?_)
      refine X_nn (fun v25n e25 => ?_)
      subst e25
      refine X_kV_A (k1 := kb10 + 3) (n1 := nb10 + 25) (M' := M_X9_copy) (nA := 0) (As := []) (st := [.int l2, .ref v16]) (b := v25n) (ci := 9) rfl rfl (by decide +kernel) rfl rfl rfl rfl (by show kb10 + 3 = kb10 + 3; omega) (by show nb10 + 25 = nb10 + 25; omega) (X_ble (by show kb10 + 3 ≤ 217; omega)) (X_ble (by show nb10 + 25 ≤ 797; omega)) (fun _ _ e => ct_X9_copy  e) (fun y26 => ?_)
      refine X_qst (t := 7) (ci := 9) (C := "LampRelayLaw$Lamp") rfl rfl rfl rfl (fun h29 => ?_)
      refine X_iinc (v := l2 + 1) rfl rfl rfl (congrArg (fun z => l2 + z) (by decide : Int32.ofInt 1 = 1)) rfl ?_
      refine X_goto rfl rfl ?_
      refine X_wid (k' := kb10 + 3) (n' := nb10 + 25) (by omega) (by omega) ?_
      exact X_sub (g_sub_s (g_sub_s (g_sub_s g_sub_0))) (ih _ _ (by omega) (by omega) _ _ _ _)
    · refine X_aload_n rfl rfl rfl ?_
      refine X_aload_n rfl rfl rfl ?_
      refine X_getA rfl rfl (fun v38 => ?_)
      refine X_aln rfl rfl (fun v41 => ?_)
      refine X_nwQ (t := 8) (C := "LampRelayLaw$Talk") (k1 := kb10 + 1) (n1 := nb10 + 8) (B := 8) rfl rfl (by show kb10 + 1 = kb10 + 1; omega) (by show nb10 + 8 = nb10 + 8; omega) (by decide +kernel) (by decide +kernel) rfl rfl (X_ble (by show kb10 + 1 ≤ 217; omega)) (X_ble (by show nb10 + 8 ≤ 797; omega)) (fun h42 => ?_)
      refine X_put rfl rfl rfl rfl rfl (fun h45 => ?_)
      refine X_iconst (v := 0) rfl rfl (by decide) ?_
      refine X_istore_n rfl rfl rfl rfl ?_
      refine X_wid (k' := 19) (n' := 131) (by omega) (by omega) ?_
      exact X_sub (g_sub_s (g_sub_s (g_sub_s g_sub_0))) (b_X10_copy_b50 9 _ _ (by omega) (by omega) _ _ _ _)
set_option maxRecDepth 100000 in
theorem ct_X10_copy {l : Launch} {G : gG} {h : gH} {a0 : Nat} {r : Nat} {h1 : gH} (e : f_X10_copy G h a0 = some (r, h1)) : Ct l G M_X10_copy [.ref a0] h (some (.ref r)) h1 := by
  refine Ct_of (L := [some (.ref a0), none, none]) ok_X10_copy (by decide +kernel) rfl rfl rfl (ρ := g_wA) (F := f_X10_copy G h a0) ?_ e rfl
  unfold f_X10_copy
  refine X_newO (k1 := 1) (n1 := 12) rfl rfl rfl (by decide +kernel) rfl rfl (fun h0 => ?_)
  refine X_dup rfl rfl rfl ?_
  refine X_kI_U (k1 := 9) (n1 := 48) (M' := M_X10_init) (nA := 0) (As := []) (st := [.ref h.1]) (b := h.1) rfl rfl (by decide +kernel) rfl rfl rfl rfl rfl rfl rfl (fun _ e => ct_X10_init  e) (fun h4 => ?_)
  refine X_astore_n rfl rfl rfl rfl ?_
  refine X_iconst (v := 0) rfl rfl (by decide) ?_
  refine X_istore_n rfl rfl rfl rfl ?_
  exact X_sub (g_sub_s (g_sub_s (g_sub_s g_sub_0))) (b_X10_copy_b10 3 _ _ (by omega) (by omega) _ _ _ _)
def f_X10_adds_b141 (G : gG) : Nat → gH → Nat → Nat → Nat → Int32 → Option gH
  | 0, _, _, _, _, _ => none
  | n + 1, h, l0, l4, l5, l6 =>
    (g_gA h l0 10 1).bind fun v144 =>
    (g_aln h v144).bind fun v147 =>
    (if l6 < v147 then
      (g_gA h l0 10 1).bind fun v156 =>
      (g_qld h v156 8 l6).bind fun v161 =>
      v161.bind fun v161n =>
      bif g_is h v161n 12 then (g_qst h l5 8 l6 v161n).bind fun h162 =>
      f_X10_adds_b141 G n h162 l0 l4 l5 (l6 + 1)
      else none
    else
      (g_gA h l0 10 1).bind fun v172 =>
      (g_aln h v172).bind fun v175 =>
      bif g_is h l4 12 then (g_qst h l5 8 v175 l4).bind fun h178 =>
      (g_put h178 l0 10 1 (.ref l5)).bind fun h182 =>
      some h182
      else none)
def f_X10_adds_b94 (G : gG) : Nat → gH → Nat → Nat → Int32 → Option gH
  | 0, _, _, _, _ => none
  | n + 1, h, l0, l4, l5 =>
    (g_gA h l4 12 4).bind fun v98 =>
    (g_aln h v98).bind fun v101 =>
    (if l5 < v101 then
      (g_gA h l4 12 4).bind fun v107 =>
      (g_mk h (.inr (8, g_dfl 8))).bind fun h112 =>
      (f_X8_init G h112 h.1).bind fun h116 =>
      bif g_is h116 h.1 8 then (g_qst h116 v107 6 l5 h.1).bind fun h119 =>
      f_X10_adds_b94 G n h119 l0 l4 (l5 + 1)
      else none
    else
      (g_gA h l0 10 1).bind fun v127 =>
      (g_aln h v127).bind fun v130 =>
      (g_nwQ h 8 (v130 + 1) 9).bind fun h133 =>
      f_X10_adds_b141 G g_N h133 l0 l4 h.1 0)
def f_X10_adds_b41 (G : gG) : Nat → gH → Nat → Nat → Nat → Int32 → Option gH
  | 0, _, _, _, _, _ => none
  | n + 1, h, l0, l3, l4, l5 =>
    (g_gA h l4 12 3).bind fun v45 =>
    (g_aln h v45).bind fun v48 =>
    (if l5 < v48 then
      (g_gA h l4 12 3).bind fun v54 =>
      (g_ast h v54 l5 (-1)).bind fun h60 =>
      f_X10_adds_b41 G n h60 l0 l3 l4 (l5 + 1)
    else
      bif g_isS G h l3 then
      (f_T0_length_8abf5 G h l3).bind fun v70 =>
      (g_gI h l0 10 4).bind fun v74 =>
      (g_gI h l0 10 4).bind fun v81 =>
      if v81 = 0 then none else
      (g_nwQ h 6 (((v70 + v74) - 1) / v81) 16).bind fun h85 =>
      (g_put h85 l4 12 4 (.ref h.1)).bind fun h88 =>
      f_X10_adds_b94 G 17 h88 l0 l4 0
      else none)
def f_X10_adds (G : gG) (h : gH) (a0 : Nat) (p1 : Int32) (p2 : Int32) (p3 : Nat) : Option gH :=
  (g_mk h (.inr (12, g_dfl 12))).bind fun h0 =>
  (f_X12_init G h0 h.1).bind fun h4 =>
  (g_put h4 h.1 12 0 (.int p1)).bind fun h12 =>
  (g_put h12 h.1 12 1 (.int p2)).bind fun h18 =>
  (g_put h18 h.1 12 2 (.ref p3)).bind fun h24 =>
  bif g_isS G h24 p3 then
  (f_T0_length_8abf5 G h24 p3).bind fun v30 =>
  (g_nwI h24 v30 16).bind fun h33 =>
  (g_put h33 h.1 12 3 (.ref h24.1)).bind fun h35 =>
  f_X10_adds_b41 G g_N h35 a0 p3 h.1 0
  else none
set_option maxRecDepth 100000 in
theorem b_X10_adds_b141 {l : Launch} {G : gG} : ∀ (n : Nat) (h : gH) (l0 : Nat) (l4 : Nat) (l5 : Nat) (l6 : Int32), GX l G M_X10_adds (g_phi G g_wU (m_R M_X10_adds).cells (m_R M_X10_adds).slots) 23 83 141 [some (.ref l0), none, none, none, some (.ref l4), some (.ref l5), some (.int l6)] [] h (f_X10_adds_b141 G n h l0 l4 l5 l6) := by
  intro n
  induction n with
  | zero => intros; exact X_none
  | succ n ih =>
    intro h l0 l4 l5 l6
    rw [f_X10_adds_b141]
    refine X_iload rfl rfl rfl ?_
    refine X_aload_n rfl rfl rfl ?_
    refine X_getA rfl rfl (fun v144 => ?_)
    refine X_aln rfl rfl (fun v147 => ?_)
    refine X_bicmp_ge rfl rfl (fun _ => ?_) (fun _ => ?_)
    · refine X_aload rfl rfl rfl ?_
      refine X_iload rfl rfl rfl ?_
      refine X_aload_n rfl rfl rfl ?_
      refine X_getA rfl rfl (fun v156 => ?_)
      refine X_iload rfl rfl rfl ?_
      refine X_qld9 (t := 8) rfl rfl (by simp) (fun v161 => ?_)
      refine X_nn (fun v161n e161 => ?_)
      subst e161
      refine X_qst (t := 8) (ci := 12) (C := "LampRelayLaw$Talk") rfl rfl rfl rfl (fun h162 => ?_)
      refine X_iinc (v := l6 + 1) rfl rfl rfl (congrArg (fun z => l6 + z) (by decide : Int32.ofInt 1 = 1)) rfl ?_
      refine X_goto rfl rfl ?_
      exact X_sub (g_sub_s (g_sub_n (g_sub_n (g_sub_n (g_sub_s (g_sub_s (g_sub_s g_sub_0))))))) (ih _ _ _ _ _)
    · refine X_aload rfl rfl rfl ?_
      refine X_aload_n rfl rfl rfl ?_
      refine X_getA rfl rfl (fun v172 => ?_)
      refine X_aln rfl rfl (fun v175 => ?_)
      refine X_aload rfl rfl rfl ?_
      refine X_qst (t := 8) (ci := 12) (C := "LampRelayLaw$Talk") rfl rfl rfl rfl (fun h178 => ?_)
      refine X_aload_n rfl rfl rfl ?_
      refine X_aload rfl rfl rfl ?_
      refine X_put rfl rfl rfl rfl rfl (fun h182 => ?_)
      exact X_vret rfl rfl rfl rfl rfl rfl
set_option maxRecDepth 100000 in
theorem b_X10_adds_b94 {l : Launch} {G : gG} : ∀ (n kb94 nb94 : Nat), kb94 + n * 1 ≤ 22 → nb94 + n * 2 ≤ 74 → ∀ (h : gH) (l0 : Nat) (l4 : Nat) (l5 : Int32), GX l G M_X10_adds (g_phi G g_wU (m_R M_X10_adds).cells (m_R M_X10_adds).slots) kb94 nb94 94 [some (.ref l0), none, none, none, some (.ref l4), some (.int l5), none] [] h (f_X10_adds_b94 G n h l0 l4 l5) := by
  intro n
  induction n with
  | zero => intros; exact X_none
  | succ n ih =>
    intro kb94 nb94 hk0 hn0 h l0 l4 l5
    have hkb94 : kb94 + 1 ≤ 22 := by omega
    have hnb94 : nb94 + 2 ≤ 74 := by omega
    rw [f_X10_adds_b94]
    refine X_iload rfl rfl rfl ?_
    refine X_aload rfl rfl rfl ?_
    refine X_getA rfl rfl (fun v98 => ?_)
    refine X_aln rfl rfl (fun v101 => ?_)
    refine X_bicmp_ge rfl rfl (fun _ => ?_) (fun _ => ?_)
    · refine X_aload rfl rfl rfl ?_
      refine X_getA rfl rfl (fun v107 => ?_)
      refine X_iload rfl rfl rfl ?_
      refine X_newO (k1 := kb94 + 1) (n1 := nb94 + 2) rfl rfl (by show kb94 + 1 = kb94 + 1; omega) (by show nb94 + 2 = nb94 + 2; omega) (X_ble (by show kb94 + 1 ≤ 23; omega)) (X_ble (by show nb94 + 2 ≤ 83; omega)) (fun h112 => ?_)
      refine X_dup rfl rfl rfl ?_
      refine X_kIH_U (k1 := kb94 + 1) (n1 := nb94 + 2) (M' := M_X8_init) (nA := 0) (As := []) (st := [.ref h.1, .int l5, .ref v107]) (b := h.1) rfl rfl (by decide +kernel) rfl rfl rfl (by show kb94 + 1 + 0 = kb94 + 1; omega) (by show nb94 + 2 + 0 = nb94 + 2; omega) (X_ble (by show kb94 + 1 ≤ 23; omega)) (X_ble (by show nb94 + 2 ≤ 83; omega)) (fun _ e => ct_X8_init  e) (fun h116 => ?_)
      refine X_qst (t := 6) (ci := 8) (C := "LampRelayLaw$Frame") rfl rfl rfl rfl (fun h119 => ?_)
      refine X_iinc (v := l5 + 1) rfl rfl rfl (congrArg (fun z => l5 + z) (by decide : Int32.ofInt 1 = 1)) rfl ?_
      refine X_goto rfl rfl ?_
      refine X_wid (k' := kb94 + 1) (n' := nb94 + 2) (by omega) (by omega) ?_
      exact X_sub (g_sub_s (g_sub_n (g_sub_n (g_sub_n (g_sub_s (g_sub_s (g_sub_n g_sub_0))))))) (ih _ _ (by omega) (by omega) _ _ _ _)
    · refine X_aload_n rfl rfl rfl ?_
      refine X_getA rfl rfl (fun v127 => ?_)
      refine X_aln rfl rfl (fun v130 => ?_)
      refine X_iconst (v := 1) rfl rfl (by decide) ?_
      refine X_iadd rfl rfl ?_
      refine X_nwQ (t := 8) (C := "LampRelayLaw$Talk") (k1 := kb94 + 1) (n1 := nb94 + 9) (B := 9) rfl rfl (by show kb94 + 1 = kb94 + 1; omega) (by show nb94 + 9 = nb94 + 9; omega) (by decide +kernel) (by decide +kernel) rfl rfl (X_ble (by show kb94 + 1 ≤ 23; omega)) (X_ble (by show nb94 + 9 ≤ 83; omega)) (fun h133 => ?_)
      refine X_astore rfl rfl rfl rfl ?_
      refine X_iconst (v := 0) rfl rfl (by decide) ?_
      refine X_istore rfl rfl rfl rfl ?_
      refine X_wid (k' := 23) (n' := 83) (by omega) (by omega) ?_
      exact X_sub (g_sub_s (g_sub_n (g_sub_n (g_sub_n (g_sub_s (g_sub_s (g_sub_s g_sub_0))))))) (b_X10_adds_b141 g_N _ _ _ _ _)
set_option maxRecDepth 100000 in
theorem b_X10_adds_b41 {l : Launch} {G : gG} : ∀ (n : Nat) (h : gH) (l0 : Nat) (l3 : Nat) (l4 : Nat) (l5 : Int32), GX l G M_X10_adds (g_phi G g_wU (m_R M_X10_adds).cells (m_R M_X10_adds).slots) 4 24 41 [some (.ref l0), none, none, some (.ref l3), some (.ref l4), some (.int l5), none] [] h (f_X10_adds_b41 G n h l0 l3 l4 l5) := by
  intro n
  induction n with
  | zero => intros; exact X_none
  | succ n ih =>
    intro h l0 l3 l4 l5
    rw [f_X10_adds_b41]
    refine X_iload rfl rfl rfl ?_
    refine X_aload rfl rfl rfl ?_
    refine X_getA rfl rfl (fun v45 => ?_)
    refine X_aln rfl rfl (fun v48 => ?_)
    refine X_bicmp_ge rfl rfl (fun _ => ?_) (fun _ => ?_)
    · refine X_aload rfl rfl rfl ?_
      refine X_getA rfl rfl (fun v54 => ?_)
      refine X_iload rfl rfl rfl ?_
      refine X_iconst (v := -1) rfl rfl (by decide) ?_
      refine X_ast rfl rfl (fun h60 => ?_)
      refine X_iinc (v := l5 + 1) rfl rfl rfl (congrArg (fun z => l5 + z) (by decide : Int32.ofInt 1 = 1)) rfl ?_
      refine X_goto rfl rfl ?_
      exact X_sub (g_sub_s (g_sub_n (g_sub_n (g_sub_s (g_sub_s (g_sub_s (g_sub_n g_sub_0))))))) (ih _ _ _ _ _)
    · refine X_aload rfl rfl rfl ?_
      refine X_aload_n rfl rfl rfl ?_
      refine X_kG_IR (M' := M_T0_length_8abf5) (nA := 0) (As := []) (st := [.ref l4]) (x := l3) rfl rfl (by decide +kernel) rfl rfl rfl rfl rfl rfl rfl rfl (fun _ e => ct_T0_length_8abf5  e) (fun v70 => ?_)
      refine X_aload_n rfl rfl rfl ?_
      refine X_getI rfl rfl (fun v74 => ?_)
      refine X_iadd rfl rfl ?_
      refine X_iconst (v := 1) rfl rfl (by decide) ?_
      refine X_isub rfl rfl ?_
      refine X_aload_n rfl rfl rfl ?_
      refine X_getI rfl rfl (fun v81 => ?_)
      refine X_if (fun _ => X_none) (fun hz => ?_)
      refine X_idiv (v := ((v70 + v74) - 1) / v81) rfl rfl rfl hz ?_
      refine X_nwQ (t := 6) (C := "LampRelayLaw$Frame") (k1 := 5) (n1 := 40) (B := 16) rfl rfl rfl rfl (by decide +kernel) (by decide +kernel) rfl rfl rfl rfl (fun h85 => ?_)
      refine X_put rfl rfl rfl rfl rfl (fun h88 => ?_)
      refine X_iconst (v := 0) rfl rfl (by decide) ?_
      refine X_istore rfl rfl rfl rfl ?_
      exact X_sub (g_sub_s (g_sub_n (g_sub_n (g_sub_n (g_sub_s (g_sub_s (g_sub_n g_sub_0))))))) (b_X10_adds_b94 17 _ _ (by omega) (by omega) _ _ _ _)
set_option maxRecDepth 100000 in
theorem ct_X10_adds {l : Launch} {G : gG} {h : gH} {a0 : Nat} {p1 : Int32} {p2 : Int32} {p3 : Nat} {h1 : gH} (e : f_X10_adds G h a0 p1 p2 p3 = some h1) : Ct l G M_X10_adds [.ref a0, .int p1, .int p2, .ref p3] h none h1 := by
  refine Ct_of (L := [some (.ref a0), some (.int p1), some (.int p2), some (.ref p3), none, none, none]) ok_X10_adds (by decide +kernel) rfl rfl rfl (ρ := g_wU) (F := f_X10_adds G h a0 p1 p2 p3) ?_ e rfl
  unfold f_X10_adds
  refine X_newO (k1 := 1) (n1 := 8) rfl rfl rfl (by decide +kernel) rfl rfl (fun h0 => ?_)
  refine X_dup rfl rfl rfl ?_
  refine X_kIH_U (k1 := 3) (n1 := 8) (M' := M_X12_init) (nA := 0) (As := []) (st := [.ref h.1]) (b := h.1) rfl rfl (by decide +kernel) rfl rfl rfl rfl rfl rfl rfl (fun _ e => ct_X12_init  e) (fun h4 => ?_)
  refine X_astore rfl rfl rfl rfl ?_
  refine X_aload rfl rfl rfl ?_
  refine X_iload_n rfl rfl rfl ?_
  refine X_put rfl rfl rfl rfl rfl (fun h12 => ?_)
  refine X_aload rfl rfl rfl ?_
  refine X_iload_n rfl rfl rfl ?_
  refine X_put rfl rfl rfl rfl rfl (fun h18 => ?_)
  refine X_aload rfl rfl rfl ?_
  refine X_aload_n rfl rfl rfl ?_
  refine X_put rfl rfl rfl rfl rfl (fun h24 => ?_)
  refine X_aload rfl rfl rfl ?_
  refine X_aload_n rfl rfl rfl ?_
  refine X_kG_IR (M' := M_T0_length_8abf5) (nA := 0) (As := []) (st := [.ref h.1]) (x := p3) rfl rfl (by decide +kernel) rfl rfl rfl rfl rfl rfl rfl rfl (fun _ e => ct_T0_length_8abf5  e) (fun v30 => ?_)
  refine X_nwI (k1 := 4) (n1 := 24) (B := 16) rfl rfl rfl rfl rfl rfl rfl (fun h33 => ?_)
  refine X_put rfl rfl rfl rfl rfl (fun h35 => ?_)
  refine X_iconst (v := 0) rfl rfl (by decide) ?_
  refine X_istore rfl rfl rfl rfl ?_
  exact X_sub (g_sub_s (g_sub_n (g_sub_n (g_sub_s (g_sub_s (g_sub_s (g_sub_n g_sub_0))))))) (b_X10_adds_b41 g_N _ _ _ _ _)
def f_X10_mist_b45 (G : gG) (h : gH) (K8 : Nat → Int32 → Int32 → Option (Int32)) (l0 : Nat) (l1 : Int32) (l2 : Int32) : Option (Int32) :=
  K8 l0 l1 (l2 + (-1))
def f_X10_mist_b8 (G : gG) (h : gH) : Nat → Nat → Int32 → Int32 → Option (Int32)
  | 0, _, _, _ => none
  | n + 1, l0, l1, l2 =>
    (if 0 ≤ l2 then
      (g_gA h l0 10 3).bind fun v13 =>
      (g_qld h v13 3 l2).bind fun v17 =>
      v17.bind fun v17n =>
      (g_ald h v17n 0).bind fun v19 =>
      (if v19 ≤ l1 then
        (g_gA h l0 10 3).bind fun v26 =>
        (g_qld h v26 3 l2).bind fun v30 =>
        v30.bind fun v30n =>
        (g_ald h v30n 1).bind fun v32 =>
        (if l1 ≤ v32 then
          (g_gA h l0 10 3).bind fun v37 =>
          (g_qld h v37 3 l2).bind fun v41 =>
          v41.bind fun v41n =>
          (g_ald h v41n 2).bind fun v43 =>
          some v43
        else
          f_X10_mist_b45 G h (f_X10_mist_b8 G h n) l0 l1 l2)
      else
        f_X10_mist_b45 G h (f_X10_mist_b8 G h n) l0 l1 l2)
    else
      some 0)
def f_X10_mist (G : gG) (h : gH) (a0 : Nat) (p1 : Int32) : Option (Int32) :=
  (g_gA h a0 10 3).bind fun v1 =>
  (g_aln h v1).bind fun v4 =>
  f_X10_mist_b8 G h g_N a0 p1 (v4 - 1)
set_option maxRecDepth 100000 in
theorem b_X10_mist_b45 {l : Launch} {G : gG} {h : gH} {K8 : Nat → Int32 → Int32 → Option (Int32)} (hK8 : ∀ (l0 : Nat) (l1 : Int32) (l2 : Int32), GX l G M_X10_mist (g_phi G (g_rI h) (m_R M_X10_mist).cells (m_R M_X10_mist).slots) 0 0 8 [some (.ref l0), some (.int l1), some (.int l2)] [] h (K8 l0 l1 l2)) (l0 : Nat) (l1 : Int32) (l2 : Int32) : GX l G M_X10_mist (g_phi G (g_rI h) (m_R M_X10_mist).cells (m_R M_X10_mist).slots) 0 0 45 [some (.ref l0), some (.int l1), some (.int l2)] [] h (f_X10_mist_b45 G h K8 l0 l1 l2) := by
  unfold f_X10_mist_b45
  refine X_iinc (v := l2 + (-1)) rfl rfl rfl (congrArg (fun z => l2 + z) (by decide : Int32.ofInt (-1) = (-1))) rfl ?_
  refine X_goto rfl rfl ?_
  exact X_sub (g_sub_s (g_sub_s (g_sub_s g_sub_0))) (hK8 _ _ _)
set_option maxRecDepth 100000 in
theorem b_X10_mist_b8 {l : Launch} {G : gG} {h : gH} : ∀ (n : Nat) (l0 : Nat) (l1 : Int32) (l2 : Int32), GX l G M_X10_mist (g_phi G (g_rI h) (m_R M_X10_mist).cells (m_R M_X10_mist).slots) 0 0 8 [some (.ref l0), some (.int l1), some (.int l2)] [] h (f_X10_mist_b8 G h n l0 l1 l2) := by
  intro n
  induction n with
  | zero => intros; exact X_none
  | succ n ih =>
    intro l0 l1 l2
    rw [f_X10_mist_b8]
    refine X_iload_n rfl rfl rfl ?_
    refine X_bif_lt rfl rfl (fun _ => ?_) (fun _ => ?_)
    · refine X_aload_n rfl rfl rfl ?_
      refine X_getA rfl rfl (fun v13 => ?_)
      refine X_iload_n rfl rfl rfl ?_
      refine X_qld (t := 3) rfl rfl (by simp) (fun v17 => ?_)
      refine X_nn (fun v17n e17 => ?_)
      subst e17
      refine X_iconst (v := 0) rfl rfl (by decide) ?_
      refine X_ald rfl rfl (fun v19 => ?_)
      refine X_iload_n rfl rfl rfl ?_
      refine X_bicmp_gt rfl rfl (fun _ => ?_) (fun _ => ?_)
      · refine X_iload_n rfl rfl rfl ?_
        refine X_aload_n rfl rfl rfl ?_
        refine X_getA rfl rfl (fun v26 => ?_)
        refine X_iload_n rfl rfl rfl ?_
        refine X_qld (t := 3) rfl rfl (by simp) (fun v30 => ?_)
        refine X_nn (fun v30n e30 => ?_)
        subst e30
        refine X_iconst (v := 1) rfl rfl (by decide) ?_
        refine X_ald rfl rfl (fun v32 => ?_)
        refine X_bicmp_gt rfl rfl (fun _ => ?_) (fun _ => ?_)
        · refine X_aload_n rfl rfl rfl ?_
          refine X_getA rfl rfl (fun v37 => ?_)
          refine X_iload_n rfl rfl rfl ?_
          refine X_qld (t := 3) rfl rfl (by simp) (fun v41 => ?_)
          refine X_nn (fun v41n e41 => ?_)
          subst e41
          refine X_iconst (v := 2) rfl rfl (by decide) ?_
          refine X_ald rfl rfl (fun v43 => ?_)
          exact X_iret rfl rfl rfl rfl rfl rfl rfl
        · exact X_sub (g_sub_s (g_sub_s (g_sub_s g_sub_0))) (b_X10_mist_b45 ih _ _ _)
      · exact X_sub (g_sub_s (g_sub_s (g_sub_s g_sub_0))) (b_X10_mist_b45 ih _ _ _)
    · refine X_iconst (v := 0) rfl rfl (by decide) ?_
      exact X_iret rfl rfl rfl rfl rfl rfl rfl
set_option maxRecDepth 100000 in
theorem ct_X10_mist {l : Launch} {G : gG} {h : gH} {a0 : Nat} {p1 : Int32} {r : Int32} (e : f_X10_mist G h a0 p1 = some r) : Ct l G M_X10_mist [.ref a0, .int p1] h (some (.int r)) h := by
  refine Ct_of (L := [some (.ref a0), some (.int p1), none]) ok_X10_mist (by decide +kernel) rfl rfl rfl (ρ := (g_rI h)) (F := f_X10_mist G h a0 p1) ?_ e rfl
  unfold f_X10_mist
  refine X_aload_n rfl rfl rfl ?_
  refine X_getA rfl rfl (fun v1 => ?_)
  refine X_aln rfl rfl (fun v4 => ?_)
  refine X_iconst (v := 1) rfl rfl (by decide) ?_
  refine X_isub rfl rfl ?_
  refine X_istore_n rfl rfl rfl rfl ?_
  exact X_sub (g_sub_s (g_sub_s (g_sub_s g_sub_0))) (b_X10_mist_b8 g_N _ _ _)
def f_X10_key_b63 (G : gG) (h : gH) (K16 : Int32 → Int32 → Option Nat → Nat → Int32 → Int32 → Option (Int32)) (l1 : Int32) (l2 : Int32) (l3 : Option Nat) (l4 : Nat) (l5 : Int32) (l6 : Int32) : Option (Int32) :=
  K16 l1 l2 l3 l4 l5 (l6 + 1)
def f_X10_key_b60 (G : gG) (h : gH) (K16 : Int32 → Int32 → Option Nat → Nat → Int32 → Int32 → Option (Int32)) (l1 : Int32) (l2 : Int32) (l4 : Nat) (l5 : Int32) (l6 : Int32) (l7 : Nat) : Option (Int32) :=
  f_X10_key_b63 G h K16 l1 l2 ((some l7)) l4 l5 l6
def f_X10_key_b16 (G : gG) (h : gH) : Nat → Int32 → Int32 → Option Nat → Nat → Int32 → Int32 → Option (Int32)
  | 0, _, _, _, _, _, _ => none
  | n + 1, l1, l2, l3, l4, l5, l6 =>
    (if l6 < l5 then
      (g_qld h l4 3 l6).bind fun v27 =>
      v27.bind fun v27n =>
      (g_ald h v27n 0).bind fun v33 =>
      (if v33 = l1 then
        (g_ald h v27n 1).bind fun v41 =>
        (if v41 ≤ l2 then
          (Option.elim l3
            (f_X10_key_b60 G h (f_X10_key_b16 G h n) l1 l2 l4 l5 l6 v27n)
            (fun a47 =>
              (g_ald h v27n 1).bind fun v53 =>
              (g_ald h a47 1).bind fun v56 =>
              (if v56 < v53 then
                f_X10_key_b60 G h (f_X10_key_b16 G h n) l1 l2 l4 l5 l6 v27n
              else
                f_X10_key_b63 G h (f_X10_key_b16 G h n) l1 l2 ((some a47)) l4 l5 l6)))
        else
          f_X10_key_b63 G h (f_X10_key_b16 G h n) l1 l2 l3 l4 l5 l6)
      else
        f_X10_key_b63 G h (f_X10_key_b16 G h n) l1 l2 l3 l4 l5 l6)
    else
      (Option.elim l3
        (some 0)
        (fun a70 =>
          (g_ald h a70 2).bind fun v79 =>
          some v79)))
def f_X10_key (G : gG) (h : gH) (a0 : Nat) (p1 : Int32) (p2 : Int32) : Option (Int32) :=
  (g_gA h a0 10 2).bind fun v3 =>
  (g_aln h v3).bind fun v10 =>
  f_X10_key_b16 G h g_N p1 p2 none v3 v10 0
set_option maxRecDepth 100000 in
theorem b_X10_key_b63 {l : Launch} {G : gG} {h : gH} {K16 : Int32 → Int32 → Option Nat → Nat → Int32 → Int32 → Option (Int32)} (hK16 : ∀ (l1 : Int32) (l2 : Int32) (l3 : Option Nat) (l4 : Nat) (l5 : Int32) (l6 : Int32), GX l G M_X10_key (g_phi G (g_rI h) (m_R M_X10_key).cells (m_R M_X10_key).slots) 0 0 16 [none, some (.int l1), some (.int l2), some (va_rf l3), some (.ref l4), some (.int l5), some (.int l6), none] [] h (K16 l1 l2 l3 l4 l5 l6)) (l1 : Int32) (l2 : Int32) (l3 : Option Nat) (l4 : Nat) (l5 : Int32) (l6 : Int32) : GX l G M_X10_key (g_phi G (g_rI h) (m_R M_X10_key).cells (m_R M_X10_key).slots) 0 0 63 [none, some (.int l1), some (.int l2), some (va_rf l3), some (.ref l4), some (.int l5), some (.int l6), none] [] h (f_X10_key_b63 G h K16 l1 l2 l3 l4 l5 l6) := by
  unfold f_X10_key_b63
  refine X_iinc (v := l6 + 1) rfl rfl rfl (congrArg (fun z => l6 + z) (by decide : Int32.ofInt 1 = 1)) rfl ?_
  refine X_goto rfl rfl ?_
  exact X_sub (g_sub_n (g_sub_s (g_sub_s (g_sub_s (g_sub_s (g_sub_s (g_sub_s (g_sub_n g_sub_0)))))))) (hK16 _ _ _ _ _ _)
set_option maxRecDepth 100000 in
theorem b_X10_key_b60 {l : Launch} {G : gG} {h : gH} {K16 : Int32 → Int32 → Option Nat → Nat → Int32 → Int32 → Option (Int32)} (hK16 : ∀ (l1 : Int32) (l2 : Int32) (l3 : Option Nat) (l4 : Nat) (l5 : Int32) (l6 : Int32), GX l G M_X10_key (g_phi G (g_rI h) (m_R M_X10_key).cells (m_R M_X10_key).slots) 0 0 16 [none, some (.int l1), some (.int l2), some (va_rf l3), some (.ref l4), some (.int l5), some (.int l6), none] [] h (K16 l1 l2 l3 l4 l5 l6)) (l1 : Int32) (l2 : Int32) (l4 : Nat) (l5 : Int32) (l6 : Int32) (l7 : Nat) : GX l G M_X10_key (g_phi G (g_rI h) (m_R M_X10_key).cells (m_R M_X10_key).slots) 0 0 60 [none, some (.int l1), some (.int l2), none, some (.ref l4), some (.int l5), some (.int l6), some (.ref l7)] [] h (f_X10_key_b60 G h K16 l1 l2 l4 l5 l6 l7) := by
  unfold f_X10_key_b60
  refine X_aload rfl rfl rfl ?_
  refine X_astore_n rfl rfl rfl rfl ?_
  exact X_sub (g_sub_n (g_sub_s (g_sub_s (g_sub_s (g_sub_s (g_sub_s (g_sub_s (g_sub_n g_sub_0)))))))) (b_X10_key_b63 hK16 _ _ _ _ _ _)
set_option maxRecDepth 100000 in
theorem b_X10_key_b16 {l : Launch} {G : gG} {h : gH} : ∀ (n : Nat) (l1 : Int32) (l2 : Int32) (l3 : Option Nat) (l4 : Nat) (l5 : Int32) (l6 : Int32), GX l G M_X10_key (g_phi G (g_rI h) (m_R M_X10_key).cells (m_R M_X10_key).slots) 0 0 16 [none, some (.int l1), some (.int l2), some (va_rf l3), some (.ref l4), some (.int l5), some (.int l6), none] [] h (f_X10_key_b16 G h n l1 l2 l3 l4 l5 l6) := by
  intro n
  induction n with
  | zero => intros; exact X_none
  | succ n ih =>
    intro l1 l2 l3 l4 l5 l6
    rw [f_X10_key_b16]
    refine X_iload rfl rfl rfl ?_
    refine X_iload rfl rfl rfl ?_
    refine X_bicmp_ge rfl rfl (fun _ => ?_) (fun _ => ?_)
    · refine X_aload rfl rfl rfl ?_
      refine X_iload rfl rfl rfl ?_
      refine X_qld (t := 3) rfl rfl (by simp) (fun v27 => ?_)
      refine X_nn (fun v27n e27 => ?_)
      subst e27
      refine X_astore rfl rfl rfl rfl ?_
      refine X_aload rfl rfl rfl ?_
      refine X_iconst (v := 0) rfl rfl (by decide) ?_
      refine X_ald rfl rfl (fun v33 => ?_)
      refine X_iload_n rfl rfl rfl ?_
      refine X_bicmp_ne rfl rfl (fun _ => ?_) (fun _ => ?_)
      · refine X_aload rfl rfl rfl ?_
        refine X_iconst (v := 1) rfl rfl (by decide) ?_
        refine X_ald rfl rfl (fun v41 => ?_)
        refine X_iload_n rfl rfl rfl ?_
        refine X_bicmp_gt rfl rfl (fun _ => ?_) (fun _ => ?_)
        · refine X_aloadQ_n (x := l3) rfl rfl rfl ?_
          refine X_bnull rfl rfl (fun _ => ?_) (fun a47 e47 => ?_)
          · exact X_sub (g_sub_n (g_sub_s (g_sub_s (g_sub_n (g_sub_s (g_sub_s (g_sub_s (g_sub_s g_sub_0)))))))) (b_X10_key_b60 ih _ _ _ _ _ _)
          · subst e47
            refine X_aload rfl rfl rfl ?_
            refine X_iconst (v := 1) rfl rfl (by decide) ?_
            refine X_ald rfl rfl (fun v53 => ?_)
            refine X_aload_n rfl rfl rfl ?_
            refine X_iconst (v := 1) rfl rfl (by decide) ?_
            refine X_ald rfl rfl (fun v56 => ?_)
            refine X_bicmp_le rfl rfl (fun _ => ?_) (fun _ => ?_)
            · exact X_sub (g_sub_n (g_sub_s (g_sub_s (g_sub_n (g_sub_s (g_sub_s (g_sub_s (g_sub_s g_sub_0)))))))) (b_X10_key_b60 ih _ _ _ _ _ _)
            · exact X_sub (g_sub_n (g_sub_s (g_sub_s (g_sub_s (g_sub_s (g_sub_s (g_sub_s (g_sub_n g_sub_0)))))))) (b_X10_key_b63 ih _ _ _ _ _ _)
        · exact X_sub (g_sub_n (g_sub_s (g_sub_s (g_sub_s (g_sub_s (g_sub_s (g_sub_s (g_sub_n g_sub_0)))))))) (b_X10_key_b63 ih _ _ _ _ _ _)
      · exact X_sub (g_sub_n (g_sub_s (g_sub_s (g_sub_s (g_sub_s (g_sub_s (g_sub_s (g_sub_n g_sub_0)))))))) (b_X10_key_b63 ih _ _ _ _ _ _)
    · refine X_aloadQ_n (x := l3) rfl rfl rfl ?_
      refine X_bnonnull rfl rfl (fun _ => ?_) (fun a70 e70 => ?_)
      · refine X_iconst (v := 0) rfl rfl (by decide) ?_
        refine X_goto rfl rfl ?_
        exact X_iret rfl rfl rfl rfl rfl rfl rfl
      · subst e70
        refine X_aload_n rfl rfl rfl ?_
        refine X_iconst (v := 2) rfl rfl (by decide) ?_
        refine X_ald rfl rfl (fun v79 => ?_)
        exact X_iret rfl rfl rfl rfl rfl rfl rfl
set_option maxRecDepth 100000 in
theorem ct_X10_key {l : Launch} {G : gG} {h : gH} {a0 : Nat} {p1 : Int32} {p2 : Int32} {r : Int32} (e : f_X10_key G h a0 p1 p2 = some r) : Ct l G M_X10_key [.ref a0, .int p1, .int p2] h (some (.int r)) h := by
  refine Ct_of (L := [some (.ref a0), some (.int p1), some (.int p2), none, none, none, none, none]) ok_X10_key (by decide +kernel) rfl rfl rfl (ρ := (g_rI h)) (F := f_X10_key G h a0 p1 p2) ?_ e rfl
  unfold f_X10_key
  refine X_null rfl rfl ?_
  refine X_rfl (st' := va_rf none :: []) rfl ?_
  refine X_astoreQ_n (x := none) rfl rfl rfl rfl ?_
  refine X_aload_n rfl rfl rfl ?_
  refine X_getA rfl rfl (fun v3 => ?_)
  refine X_astore rfl rfl rfl rfl ?_
  refine X_aload rfl rfl rfl ?_
  refine X_aln rfl rfl (fun v10 => ?_)
  refine X_istore rfl rfl rfl rfl ?_
  refine X_iconst (v := 0) rfl rfl (by decide) ?_
  refine X_istore rfl rfl rfl rfl ?_
  exact X_sub (g_sub_n (g_sub_s (g_sub_s (g_sub_s (g_sub_s (g_sub_s (g_sub_s (g_sub_n g_sub_0)))))))) (b_X10_key_b16 g_N _ _ _ _ _ _)
def f_X10_air (G : gG) (h : gH) (a0 : Nat) (p1 : Nat) : Option (Int32 × gH) :=
  (g_gI h a0 10 6).bind fun v2 =>
  bif g_is h a0 10 then
  (f_X10_mist G h a0 v2).bind fun v5 =>
  (g_gI h a0 10 8).bind fun v11 =>
  (g_put h a0 10 8 (.int (v11 + 1))).bind fun h16 =>
  (g_gI h16 p1 9 0).bind fun v21 =>
  (if v21 < v5 then
    (g_gI h16 a0 10 9).bind fun v29 =>
    (g_put h16 a0 10 9 (.int (v29 + 1))).bind fun h34 =>
    some (2, h34)
  else
    (g_gI h16 p1 9 0).bind fun v41 =>
    (if v5 < v41 then
      some (0, h16)
    else
      (g_gI h16 a0 10 10).bind fun v51 =>
      (g_put h16 a0 10 10 (.int (v51 + 1))).bind fun h56 =>
      some (1, h56)))
  else none
set_option maxRecDepth 100000 in
theorem ct_X10_air {l : Launch} {G : gG} {h : gH} {a0 : Nat} {p1 : Nat} {r : Int32} {h1 : gH} (e : f_X10_air G h a0 p1 = some (r, h1)) : Ct l G M_X10_air [.ref a0, .ref p1] h (some (.int r)) h1 := by
  refine Ct_of (L := [some (.ref a0), some (.ref p1), none]) ok_X10_air (by decide +kernel) rfl rfl rfl (ρ := g_wI) (F := f_X10_air G h a0 p1) ?_ e rfl
  unfold f_X10_air
  refine X_aload_n rfl rfl rfl ?_
  refine X_aload_n rfl rfl rfl ?_
  refine X_getI rfl rfl (fun v2 => ?_)
  refine X_callV_IR (M' := M_X10_mist) (nA := 1) (As := [.int v2]) (st := []) (b := a0) (ci := 10) rfl rfl (by decide +kernel) rfl rfl rfl rfl rfl rfl rfl rfl (fun _ e => ct_X10_mist  e) (fun v5 => ?_)
  refine X_istore_n rfl rfl rfl rfl ?_
  refine X_aload_n rfl rfl rfl ?_
  refine X_dup rfl rfl rfl ?_
  refine X_getI rfl rfl (fun v11 => ?_)
  refine X_iconst (v := 1) rfl rfl (by decide) ?_
  refine X_iadd rfl rfl ?_
  refine X_put rfl rfl rfl rfl rfl (fun h16 => ?_)
  refine X_iload_n rfl rfl rfl ?_
  refine X_aload_n rfl rfl rfl ?_
  refine X_getI rfl rfl (fun v21 => ?_)
  refine X_bicmp_le rfl rfl (fun _ => ?_) (fun _ => ?_)
  · refine X_aload_n rfl rfl rfl ?_
    refine X_dup rfl rfl rfl ?_
    refine X_getI rfl rfl (fun v29 => ?_)
    refine X_iconst (v := 1) rfl rfl (by decide) ?_
    refine X_iadd rfl rfl ?_
    refine X_put rfl rfl rfl rfl rfl (fun h34 => ?_)
    refine X_iconst (v := 2) rfl rfl (by decide) ?_
    exact X_iret rfl rfl rfl rfl rfl rfl rfl
  · refine X_iload_n rfl rfl rfl ?_
    refine X_aload_n rfl rfl rfl ?_
    refine X_getI rfl rfl (fun v41 => ?_)
    refine X_bicmp_ge rfl rfl (fun _ => ?_) (fun _ => ?_)
    · refine X_iconst (v := 0) rfl rfl (by decide) ?_
      exact X_iret rfl rfl rfl rfl rfl rfl rfl
    · refine X_aload_n rfl rfl rfl ?_
      refine X_dup rfl rfl rfl ?_
      refine X_getI rfl rfl (fun v51 => ?_)
      refine X_iconst (v := 1) rfl rfl (by decide) ?_
      refine X_iadd rfl rfl ?_
      refine X_put rfl rfl rfl rfl rfl (fun h56 => ?_)
      refine X_iconst (v := 1) rfl rfl (by decide) ?_
      exact X_iret rfl rfl rfl rfl rfl rfl rfl
def f_X10_letters (G : gG) (h : gH) (a0 : Nat) (p1 : Nat) (p2 : Int32) : Option (Int32) :=
  (g_gA h p1 12 2).bind fun v1 =>
  bif g_isS G h v1 then
  (f_T0_length_8abf5 G h v1).bind fun v4 =>
  (g_gI h a0 10 4).bind fun v11 =>
  (g_gI h a0 10 4).bind fun v20 =>
  some ((g_min v4 ((p2 + 1) * v11)) - (p2 * v20))
  else none
set_option maxRecDepth 100000 in
theorem ct_X10_letters {l : Launch} {G : gG} {h : gH} {a0 : Nat} {p1 : Nat} {p2 : Int32} {r : Int32} (e : f_X10_letters G h a0 p1 p2 = some r) : Ct l G M_X10_letters [.ref a0, .ref p1, .int p2] h (some (.int r)) h := by
  refine Ct_of (L := [some (.ref a0), some (.ref p1), some (.int p2)]) ok_X10_letters (by decide +kernel) rfl rfl rfl (ρ := (g_rI h)) (F := f_X10_letters G h a0 p1 p2) ?_ e rfl
  unfold f_X10_letters
  refine X_aload_n rfl rfl rfl ?_
  refine X_getA rfl rfl (fun v1 => ?_)
  refine X_kG_IR (M' := M_T0_length_8abf5) (nA := 0) (As := []) (st := []) (x := v1) rfl rfl (by decide +kernel) rfl rfl rfl rfl rfl rfl rfl rfl (fun _ e => ct_T0_length_8abf5  e) (fun v4 => ?_)
  refine X_iload_n rfl rfl rfl ?_
  refine X_iconst (v := 1) rfl rfl (by decide) ?_
  refine X_iadd rfl rfl ?_
  refine X_aload_n rfl rfl rfl ?_
  refine X_getI rfl rfl (fun v11 => ?_)
  refine X_imul rfl rfl ?_
  refine X_mmin rfl rfl (by decide +kernel) (by decide +kernel) (by decide +kernel) (by decide +kernel) rfl rfl rfl rfl ?_
  refine X_iload_n rfl rfl rfl ?_
  refine X_aload_n rfl rfl rfl ?_
  refine X_getI rfl rfl (fun v20 => ?_)
  refine X_imul rfl rfl ?_
  refine X_isub rfl rfl ?_
  exact X_iret rfl rfl rfl rfl rfl rfl rfl
def f_X12_letter (G : gG) (h : gH) (a0 : Nat) (p1 : Int32) : Option (Int32) :=
  (g_gA h a0 12 2).bind fun v1 =>
  bif g_isS G h v1 then
  (f_T0_charAt_5068e G h v1 p1).bind fun v5 =>
  some (v5 - 97)
  else none
set_option maxRecDepth 100000 in
theorem ct_X12_letter {l : Launch} {G : gG} {h : gH} {a0 : Nat} {p1 : Int32} {r : Int32} (e : f_X12_letter G h a0 p1 = some r) : Ct l G M_X12_letter [.ref a0, .int p1] h (some (.int r)) h := by
  refine Ct_of (L := [some (.ref a0), some (.int p1)]) ok_X12_letter (by decide +kernel) rfl rfl rfl (ρ := (g_rI h)) (F := f_X12_letter G h a0 p1) ?_ e rfl
  unfold f_X12_letter
  refine X_aload_n rfl rfl rfl ?_
  refine X_getA rfl rfl (fun v1 => ?_)
  refine X_iload_n rfl rfl rfl ?_
  refine X_kG_IR (M' := M_T0_charAt_5068e) (nA := 1) (As := [.int p1]) (st := []) (x := v1) rfl rfl (by decide +kernel) rfl rfl rfl rfl rfl rfl rfl rfl (fun _ e => ct_T0_charAt_5068e  e) (fun v5 => ?_)
  refine X_bipush (v := 97) rfl rfl (by decide) ?_
  refine X_isub rfl rfl ?_
  exact X_iret rfl rfl rfl rfl rfl rfl rfl
def f_X10_steps_b153 (G : gG) (h : gH) (l2 : Nat) : Option gH :=
  (g_put h l2 9 3 (.int (-1))).bind fun h155 =>
  (g_put h155 l2 9 4 (.int (-1))).bind fun h160 =>
  some h160
def f_X10_steps_b134 (G : gG) (h : gH) (l0 : Nat) (l2 : Nat) (l6 : Nat) : Option gH :=
  (g_gI h l6 8 0).bind fun v136 =>
  (if v136 = 3 then
    (g_gI h l0 10 11).bind fun v145 =>
    (g_put h l0 10 11 (.int (v145 + 1))).bind fun h150 =>
    f_X10_steps_b153 G h150 l2
  else
    f_X10_steps_b153 G h l2)
def f_X10_steps_b131 (G : gG) (h : gH) (l0 : Nat) (l2 : Nat) (l6 : Nat) (s0 : Int32) (s1 : Nat) : Option gH :=
  (g_put h s1 8 0 (.int s0)).bind fun h131 =>
  f_X10_steps_b134 G h131 l0 l2 l6
def f_X10_steps_b107 (G : gG) (h : gH) (l0 : Nat) (l2 : Nat) (l5 : Int32) (l6 : Nat) : Option gH :=
  (if l5 = 0 then
    (g_gI h l6 8 1).bind fun v116 =>
    (g_gI h l0 10 5).bind fun v120 =>
    (if v116 = v120 then
      f_X10_steps_b131 G h l0 l2 l6 3 l6
    else
      f_X10_steps_b131 G h l0 l2 l6 0 l6)
  else
    f_X10_steps_b134 G h l0 l2 l6)
def f_X10_steps_b69 (G : gG) (h : gH) (l0 : Nat) (l1 : Nat) (l2 : Nat) (s0 : Int32) : Option gH :=
  (g_gA h l1 12 4).bind fun v72 =>
  (g_gI h l2 9 3).bind fun v76 =>
  (g_qld h v72 6 v76).bind fun v79 =>
  v79.bind fun v79n =>
  (if s0 = 0 then
    (g_gI h v79n 8 1).bind fun v99 =>
    (g_put h v79n 8 1 (.int (v99 + 1))).bind fun h104 =>
    f_X10_steps_b107 G h104 l0 l2 s0 v79n
  else
    (g_put h v79n 8 0 (.int 2)).bind fun h90 =>
    f_X10_steps_b107 G h90 l0 l2 s0 v79n)
def f_X10_steps_b64 (G : gG) (h : gH) (l0 : Nat) (l1 : Nat) (l2 : Nat) : Option gH :=
  f_X10_steps_b69 G h l0 l1 l2 1
def f_X10_steps_b68 (G : gG) (h : gH) (l0 : Nat) (l1 : Nat) (l2 : Nat) : Option gH :=
  f_X10_steps_b69 G h l0 l1 l2 0
def f_X10_steps_b51 (G : gG) (h : gH) (l0 : Nat) (l1 : Nat) (l2 : Nat) (l4 : Int32) : Option gH :=
  (if l4 = 1 then
    (g_gI h l2 9 8).bind fun v58 =>
    (if v58 = 0 then
      f_X10_steps_b64 G h l0 l1 l2
    else
      f_X10_steps_b68 G h l0 l1 l2)
  else
    f_X10_steps_b68 G h l0 l1 l2)
def f_X10_steps_b481 (G : gG) (h : gH) (l2 : Nat) : Option gH :=
  (g_gI h l2 9 4).bind fun v483 =>
  (g_put h l2 9 4 (.int (v483 + 1))).bind fun h488 =>
  some h488
def f_X10_steps_b475 (G : gG) (K402 : gH → Nat → Nat → Nat → Int32 → Int32 → Option gH) (h : gH) (l0 : Nat) (l1 : Nat) (l2 : Nat) (l3 : Int32) (l8 : Int32) : Option gH :=
  K402 h l0 l1 l2 l3 (l8 + 1)
def f_X10_steps_b402 (G : gG) : Nat → gH → Nat → Nat → Nat → Int32 → Int32 → Option gH
  | 0, _, _, _, _, _, _ => none
  | n + 1, h, l0, l1, l2, l3, l8 =>
    (if l8 < l3 then
      (g_gI h l2 9 8).bind fun v409 =>
      (if v409 = 0 then
        f_X10_steps_b481 G h l2
      else
        (g_gI h l2 9 6).bind fun v416 =>
        (g_gA h l1 12 4).bind fun v420 =>
        (g_aln h v420).bind fun v423 =>
        (if v416 < v423 then
          (g_gI h l2 9 6).bind fun v428 =>
          (g_gI h l0 10 4).bind fun v432 =>
          (g_gA h l1 12 3).bind fun v444 =>
          (g_aln h v444).bind fun v447 =>
          (if ((v428 * v432) + l8) < v447 then
            (g_gA h l1 12 3).bind fun v452 =>
            (g_ald h v452 ((v428 * v432) + l8)).bind fun v457 =>
            (if v457 < 0 then
              (g_gA h l1 12 3).bind fun v462 =>
              (g_gA h l2 9 7).bind fun v468 =>
              (g_ald h v468 l8).bind fun v473 =>
              (g_ast h v462 ((v428 * v432) + l8) v473).bind fun h474 =>
              f_X10_steps_b475 G (f_X10_steps_b402 G n) h474 l0 l1 l2 l3 l8
            else
              f_X10_steps_b475 G (f_X10_steps_b402 G n) h l0 l1 l2 l3 l8)
          else
            f_X10_steps_b475 G (f_X10_steps_b402 G n) h l0 l1 l2 l3 l8)
        else
          f_X10_steps_b481 G h l2))
    else
      f_X10_steps_b481 G h l2)
def f_X10_steps_b396 (G : gG) (h : gH) (l0 : Nat) (l1 : Nat) (l2 : Nat) (l3 : Int32) (s0 : Int32) (s1 : Nat) : Option gH :=
  (g_z s0).bind fun _ =>
  (g_put h s1 9 8 (.int s0)).bind fun h396 =>
  f_X10_steps_b402 G g_N h396 l0 l1 l2 l3 0
def f_X10_steps_b395 (G : gG) (h : gH) (l0 : Nat) (l1 : Nat) (l2 : Nat) (l3 : Int32) (s0 : Nat) : Option gH :=
  f_X10_steps_b396 G h l0 l1 l2 l3 0 s0
def f_X10_steps_b325 (G : gG) : Nat → gH → Nat → Nat → Nat → Int32 → Int32 → Int32 → Int32 → Option gH
  | 0, _, _, _, _, _, _, _, _ => none
  | n + 1, h, l0, l1, l2, l3, l6, l7, l8 =>
    (if l8 < l3 then
      (g_gI h l2 9 3).bind fun v335 =>
      (g_gI h l0 10 4).bind fun v339 =>
      bif g_is h l1 12 then
      (f_X12_letter G h l1 ((v335 * v339) + l8)).bind fun v346 =>
      (g_gA h l2 9 7).bind fun v355 =>
      (g_ald h v355 l8).bind fun v360 =>
      f_X10_steps_b325 G n h l0 l1 l2 l3 (l6 + v346) (l7 + v360) (l8 + 1)
      else none
    else
      (g_gI h l2 9 5).bind fun v372 =>
      (if v372 = 0 then
        (if (g_rem l6 26) = (g_rem l7 26) then
          f_X10_steps_b396 G h l0 l1 l2 l3 1 l2
        else
          f_X10_steps_b395 G h l0 l1 l2 l3 l2)
      else
        f_X10_steps_b395 G h l0 l1 l2 l3 l2))
def f_X10_steps_b195 (G : gG) (h : gH) (l0 : Nat) (l1 : Nat) (l2 : Nat) (l3 : Int32) (s0 : Int32) : Option gH :=
  (g_gI h l2 9 4).bind fun v198 =>
  (if v198 = 0 then
    (g_gI h l2 9 3).bind fun v206 =>
    (g_put h l2 9 6 (.int (g_rem (v206 + s0) 26))).bind fun h215 =>
    f_X10_steps_b481 G h215 l2
  else
    (g_gI h l2 9 4).bind fun v222 =>
    (if v222 ≤ l3 then
      (g_gI h l2 9 3).bind fun v231 =>
      (g_gI h l0 10 4).bind fun v235 =>
      (g_gI h l2 9 4).bind fun v240 =>
      bif g_is h l1 12 then
      (f_X12_letter G h l1 (((v231 * v235) + v240) - 1)).bind fun v246 =>
      (g_gI h l1 12 0).bind fun v251 =>
      (g_gI h l0 10 6).bind fun v255 =>
      bif g_is h l0 10 then
      (f_X10_key G h l0 v251 v255).bind fun v258 =>
      (g_gA h l2 9 7).bind fun v271 =>
      (g_gI h l2 9 4).bind fun v275 =>
      (g_gI h l1 12 0).bind fun v285 =>
      (g_gI h l0 10 6).bind fun v290 =>
      bif g_is h l0 10 then
      (f_X10_key G h l0 (1 - v285) v290).bind fun v293 =>
      (g_ast h v271 (v275 - 1) (g_rem (((g_rem ((v246 + v258) + s0) 26) - v293) + 26) 26)).bind fun h303 =>
      f_X10_steps_b481 G h303 l2
      else none
      else none
      else none
    else
      (g_gI h l2 9 3).bind fun v308 =>
      (g_gI h l2 9 6).bind fun v317 =>
      f_X10_steps_b325 G g_N h l0 l1 l2 l3 (v308 + s0) v317 0))
def f_X10_steps_b180 (G : gG) (h : gH) (l0 : Nat) (l1 : Nat) (l2 : Nat) (l3 : Int32) (l4 : Int32) (s0 : Int32) (s1 : Int32) (s2 : Nat) : Option gH :=
  (g_z (s1 ||| s0)).bind fun _ =>
  (g_put h s2 9 5 (.int (s1 ||| s0))).bind fun h181 =>
  (if l4 = 1 then
    f_X10_steps_b195 G h181 l0 l1 l2 l3 1
  else
    f_X10_steps_b195 G h181 l0 l1 l2 l3 0)
def f_X10_steps_b22 (G : gG) (h : gH) (l0 : Nat) (l1 : Nat) (l2 : Nat) (l3 : Int32) : Option gH :=
  bif g_is h l0 10 then
  (f_X10_air G h l0 l2).bind fun y24 =>
  (g_gI y24.2 l2 9 4).bind fun v30 =>
  (if v30 = (l3 + 2) then
    (if y24.1 = 0 then
      (g_gI y24.2 l2 9 8).bind fun v45 =>
      (if v45 = 0 then
        f_X10_steps_b51 G y24.2 l0 l1 l2 y24.1
      else
        f_X10_steps_b64 G y24.2 l0 l1 l2)
    else
      f_X10_steps_b51 G y24.2 l0 l1 l2 y24.1)
  else
    (g_gI y24.2 l2 9 5).bind fun v166 =>
    (if y24.1 = 2 then
      f_X10_steps_b180 G y24.2 l0 l1 l2 l3 y24.1 1 v166 l2
    else
      f_X10_steps_b180 G y24.2 l0 l1 l2 l3 y24.1 0 v166 l2))
  else none
def f_X10_steps (G : gG) (h : gH) (a0 : Nat) (p1 : Nat) (p2 : Nat) : Option gH :=
  (g_gI h p2 9 3).bind fun v3 =>
  bif g_is h a0 10 then
  (f_X10_letters G h a0 p1 v3).bind fun v6 =>
  (g_gI h p2 9 4).bind fun v11 =>
  (if v11 = 0 then
    (g_put h p2 9 5 (.int 0)).bind fun h19 =>
    f_X10_steps_b22 G h19 a0 p1 p2 v6
  else
    f_X10_steps_b22 G h a0 p1 p2 v6)
  else none
set_option maxRecDepth 100000 in
theorem b_X10_steps_b153 {l : Launch} {G : gG} (h : gH) (l2 : Nat) : GX l G M_X10_steps (g_phi G g_wU (m_R M_X10_steps).cells (m_R M_X10_steps).slots) 0 0 153 [none, none, some (.ref l2), none, none, none, none, none, none, none] [] h (f_X10_steps_b153 G h l2) := by
  unfold f_X10_steps_b153
  refine X_aload_n rfl rfl rfl ?_
  refine X_iconst (v := -1) rfl rfl (by decide) ?_
  refine X_put rfl rfl rfl rfl rfl (fun h155 => ?_)
  refine X_aload_n rfl rfl rfl ?_
  refine X_iconst (v := -1) rfl rfl (by decide) ?_
  refine X_put rfl rfl rfl rfl rfl (fun h160 => ?_)
  exact X_vret rfl rfl rfl rfl rfl rfl
set_option maxRecDepth 100000 in
theorem b_X10_steps_b134 {l : Launch} {G : gG} (h : gH) (l0 : Nat) (l2 : Nat) (l6 : Nat) : GX l G M_X10_steps (g_phi G g_wU (m_R M_X10_steps).cells (m_R M_X10_steps).slots) 0 0 134 [some (.ref l0), none, some (.ref l2), none, none, none, some (.ref l6), none, none, none] [] h (f_X10_steps_b134 G h l0 l2 l6) := by
  unfold f_X10_steps_b134
  refine X_aload rfl rfl rfl ?_
  refine X_getI rfl rfl (fun v136 => ?_)
  refine X_iconst (v := 3) rfl rfl (by decide) ?_
  refine X_bicmp_ne rfl rfl (fun _ => ?_) (fun _ => ?_)
  · refine X_aload_n rfl rfl rfl ?_
    refine X_dup rfl rfl rfl ?_
    refine X_getI rfl rfl (fun v145 => ?_)
    refine X_iconst (v := 1) rfl rfl (by decide) ?_
    refine X_iadd rfl rfl ?_
    refine X_put rfl rfl rfl rfl rfl (fun h150 => ?_)
    exact X_sub (g_sub_n (g_sub_n (g_sub_s (g_sub_n (g_sub_n (g_sub_n (g_sub_n (g_sub_n (g_sub_n (g_sub_n g_sub_0)))))))))) (b_X10_steps_b153  _ _)
  · exact X_sub (g_sub_n (g_sub_n (g_sub_s (g_sub_n (g_sub_n (g_sub_n (g_sub_n (g_sub_n (g_sub_n (g_sub_n g_sub_0)))))))))) (b_X10_steps_b153  _ _)
set_option maxRecDepth 100000 in
theorem b_X10_steps_b131 {l : Launch} {G : gG} (h : gH) (l0 : Nat) (l2 : Nat) (l6 : Nat) (s0 : Int32) (s1 : Nat) : GX l G M_X10_steps (g_phi G g_wU (m_R M_X10_steps).cells (m_R M_X10_steps).slots) 0 0 131 [some (.ref l0), none, some (.ref l2), none, none, none, some (.ref l6), none, none, none] [.int s0, .ref s1] h (f_X10_steps_b131 G h l0 l2 l6 s0 s1) := by
  unfold f_X10_steps_b131
  refine X_put rfl rfl rfl rfl rfl (fun h131 => ?_)
  exact X_sub (g_sub_s (g_sub_n (g_sub_s (g_sub_n (g_sub_n (g_sub_n (g_sub_s (g_sub_n (g_sub_n (g_sub_n g_sub_0)))))))))) (b_X10_steps_b134  _ _ _ _)
set_option maxRecDepth 100000 in
theorem b_X10_steps_b107 {l : Launch} {G : gG} (h : gH) (l0 : Nat) (l2 : Nat) (l5 : Int32) (l6 : Nat) : GX l G M_X10_steps (g_phi G g_wU (m_R M_X10_steps).cells (m_R M_X10_steps).slots) 0 0 107 [some (.ref l0), none, some (.ref l2), none, none, some (.int l5), some (.ref l6), none, none, none] [] h (f_X10_steps_b107 G h l0 l2 l5 l6) := by
  unfold f_X10_steps_b107
  refine X_iload rfl rfl rfl ?_
  refine X_bif_ne rfl rfl (fun _ => ?_) (fun _ => ?_)
  · refine X_aload rfl rfl rfl ?_
    refine X_aload rfl rfl rfl ?_
    refine X_getI rfl rfl (fun v116 => ?_)
    refine X_aload_n rfl rfl rfl ?_
    refine X_getI rfl rfl (fun v120 => ?_)
    refine X_bicmp_ne rfl rfl (fun _ => ?_) (fun _ => ?_)
    · refine X_iconst (v := 3) rfl rfl (by decide) ?_
      refine X_goto rfl rfl ?_
      exact X_sub (g_sub_s (g_sub_n (g_sub_s (g_sub_n (g_sub_n (g_sub_n (g_sub_s (g_sub_n (g_sub_n (g_sub_n g_sub_0)))))))))) (b_X10_steps_b131  _ _ _ _ _ _)
    · refine X_iconst (v := 0) rfl rfl (by decide) ?_
      exact X_sub (g_sub_s (g_sub_n (g_sub_s (g_sub_n (g_sub_n (g_sub_n (g_sub_s (g_sub_n (g_sub_n (g_sub_n g_sub_0)))))))))) (b_X10_steps_b131  _ _ _ _ _ _)
  · exact X_sub (g_sub_s (g_sub_n (g_sub_s (g_sub_n (g_sub_n (g_sub_n (g_sub_s (g_sub_n (g_sub_n (g_sub_n g_sub_0)))))))))) (b_X10_steps_b134  _ _ _ _)
set_option maxRecDepth 100000 in
theorem b_X10_steps_b69 {l : Launch} {G : gG} (h : gH) (l0 : Nat) (l1 : Nat) (l2 : Nat) (s0 : Int32) : GX l G M_X10_steps (g_phi G g_wU (m_R M_X10_steps).cells (m_R M_X10_steps).slots) 0 0 69 [some (.ref l0), some (.ref l1), some (.ref l2), none, none, none, none, none, none, none] [.int s0] h (f_X10_steps_b69 G h l0 l1 l2 s0) := by
  unfold f_X10_steps_b69
  refine X_istore rfl rfl rfl rfl ?_
  refine X_aload_n rfl rfl rfl ?_
  refine X_getA rfl rfl (fun v72 => ?_)
  refine X_aload_n rfl rfl rfl ?_
  refine X_getI rfl rfl (fun v76 => ?_)
  refine X_qld9 (t := 6) rfl rfl (by simp) (fun v79 => ?_)
  refine X_nn (fun v79n e79 => ?_)
  subst e79
  refine X_astore rfl rfl rfl rfl ?_
  refine X_iload rfl rfl rfl ?_
  refine X_bif_eq rfl rfl (fun _ => ?_) (fun _ => ?_)
  · refine X_aload rfl rfl rfl ?_
    refine X_dup rfl rfl rfl ?_
    refine X_getI rfl rfl (fun v99 => ?_)
    refine X_iconst (v := 1) rfl rfl (by decide) ?_
    refine X_iadd rfl rfl ?_
    refine X_put rfl rfl rfl rfl rfl (fun h104 => ?_)
    exact X_sub (g_sub_s (g_sub_n (g_sub_s (g_sub_n (g_sub_n (g_sub_s (g_sub_s (g_sub_n (g_sub_n (g_sub_n g_sub_0)))))))))) (b_X10_steps_b107  _ _ _ _ _)
  · refine X_aload rfl rfl rfl ?_
    refine X_iconst (v := 2) rfl rfl (by decide) ?_
    refine X_put rfl rfl rfl rfl rfl (fun h90 => ?_)
    refine X_goto rfl rfl ?_
    exact X_sub (g_sub_s (g_sub_n (g_sub_s (g_sub_n (g_sub_n (g_sub_s (g_sub_s (g_sub_n (g_sub_n (g_sub_n g_sub_0)))))))))) (b_X10_steps_b107  _ _ _ _ _)
set_option maxRecDepth 100000 in
theorem b_X10_steps_b64 {l : Launch} {G : gG} (h : gH) (l0 : Nat) (l1 : Nat) (l2 : Nat) : GX l G M_X10_steps (g_phi G g_wU (m_R M_X10_steps).cells (m_R M_X10_steps).slots) 0 0 64 [some (.ref l0), some (.ref l1), some (.ref l2), none, none, none, none, none, none, none] [] h (f_X10_steps_b64 G h l0 l1 l2) := by
  unfold f_X10_steps_b64
  refine X_iconst (v := 1) rfl rfl (by decide) ?_
  refine X_goto rfl rfl ?_
  exact X_sub (g_sub_s (g_sub_s (g_sub_s (g_sub_n (g_sub_n (g_sub_n (g_sub_n (g_sub_n (g_sub_n (g_sub_n g_sub_0)))))))))) (b_X10_steps_b69  _ _ _ _ _)
set_option maxRecDepth 100000 in
theorem b_X10_steps_b68 {l : Launch} {G : gG} (h : gH) (l0 : Nat) (l1 : Nat) (l2 : Nat) : GX l G M_X10_steps (g_phi G g_wU (m_R M_X10_steps).cells (m_R M_X10_steps).slots) 0 0 68 [some (.ref l0), some (.ref l1), some (.ref l2), none, none, none, none, none, none, none] [] h (f_X10_steps_b68 G h l0 l1 l2) := by
  unfold f_X10_steps_b68
  refine X_iconst (v := 0) rfl rfl (by decide) ?_
  exact X_sub (g_sub_s (g_sub_s (g_sub_s (g_sub_n (g_sub_n (g_sub_n (g_sub_n (g_sub_n (g_sub_n (g_sub_n g_sub_0)))))))))) (b_X10_steps_b69  _ _ _ _ _)
set_option maxRecDepth 100000 in
theorem b_X10_steps_b51 {l : Launch} {G : gG} (h : gH) (l0 : Nat) (l1 : Nat) (l2 : Nat) (l4 : Int32) : GX l G M_X10_steps (g_phi G g_wU (m_R M_X10_steps).cells (m_R M_X10_steps).slots) 0 0 51 [some (.ref l0), some (.ref l1), some (.ref l2), none, some (.int l4), none, none, none, none, none] [] h (f_X10_steps_b51 G h l0 l1 l2 l4) := by
  unfold f_X10_steps_b51
  refine X_iload rfl rfl rfl ?_
  refine X_iconst (v := 1) rfl rfl (by decide) ?_
  refine X_bicmp_ne rfl rfl (fun _ => ?_) (fun _ => ?_)
  · refine X_aload_n rfl rfl rfl ?_
    refine X_getI rfl rfl (fun v58 => ?_)
    refine X_bif_ne rfl rfl (fun _ => ?_) (fun _ => ?_)
    · exact X_sub (g_sub_s (g_sub_s (g_sub_s (g_sub_n (g_sub_n (g_sub_n (g_sub_n (g_sub_n (g_sub_n (g_sub_n g_sub_0)))))))))) (b_X10_steps_b64  _ _ _ _)
    · exact X_sub (g_sub_s (g_sub_s (g_sub_s (g_sub_n (g_sub_n (g_sub_n (g_sub_n (g_sub_n (g_sub_n (g_sub_n g_sub_0)))))))))) (b_X10_steps_b68  _ _ _ _)
  · exact X_sub (g_sub_s (g_sub_s (g_sub_s (g_sub_n (g_sub_n (g_sub_n (g_sub_n (g_sub_n (g_sub_n (g_sub_n g_sub_0)))))))))) (b_X10_steps_b68  _ _ _ _)
set_option maxRecDepth 100000 in
theorem b_X10_steps_b481 {l : Launch} {G : gG} (h : gH) (l2 : Nat) : GX l G M_X10_steps (g_phi G g_wU (m_R M_X10_steps).cells (m_R M_X10_steps).slots) 0 0 481 [none, none, some (.ref l2), none, none, none, none, none, none, none] [] h (f_X10_steps_b481 G h l2) := by
  unfold f_X10_steps_b481
  refine X_aload_n rfl rfl rfl ?_
  refine X_dup rfl rfl rfl ?_
  refine X_getI rfl rfl (fun v483 => ?_)
  refine X_iconst (v := 1) rfl rfl (by decide) ?_
  refine X_iadd rfl rfl ?_
  refine X_put rfl rfl rfl rfl rfl (fun h488 => ?_)
  exact X_vret rfl rfl rfl rfl rfl rfl
set_option maxRecDepth 100000 in
theorem b_X10_steps_b475 {l : Launch} {G : gG} {K402 : gH → Nat → Nat → Nat → Int32 → Int32 → Option gH} (hK402 : ∀ (h : gH) (l0 : Nat) (l1 : Nat) (l2 : Nat) (l3 : Int32) (l8 : Int32), GX l G M_X10_steps (g_phi G g_wU (m_R M_X10_steps).cells (m_R M_X10_steps).slots) 0 0 402 [some (.ref l0), some (.ref l1), some (.ref l2), some (.int l3), none, none, none, none, some (.int l8), none] [] h (K402 h l0 l1 l2 l3 l8)) (h : gH) (l0 : Nat) (l1 : Nat) (l2 : Nat) (l3 : Int32) (l8 : Int32) : GX l G M_X10_steps (g_phi G g_wU (m_R M_X10_steps).cells (m_R M_X10_steps).slots) 0 0 475 [some (.ref l0), some (.ref l1), some (.ref l2), some (.int l3), none, none, none, none, some (.int l8), none] [] h (f_X10_steps_b475 G K402 h l0 l1 l2 l3 l8) := by
  unfold f_X10_steps_b475
  refine X_iinc (v := l8 + 1) rfl rfl rfl (congrArg (fun z => l8 + z) (by decide : Int32.ofInt 1 = 1)) rfl ?_
  refine X_goto rfl rfl ?_
  exact X_sub (g_sub_s (g_sub_s (g_sub_s (g_sub_s (g_sub_n (g_sub_n (g_sub_n (g_sub_n (g_sub_s (g_sub_n g_sub_0)))))))))) (hK402 _ _ _ _ _ _)
set_option maxRecDepth 100000 in
theorem b_X10_steps_b402 {l : Launch} {G : gG} : ∀ (n : Nat) (h : gH) (l0 : Nat) (l1 : Nat) (l2 : Nat) (l3 : Int32) (l8 : Int32), GX l G M_X10_steps (g_phi G g_wU (m_R M_X10_steps).cells (m_R M_X10_steps).slots) 0 0 402 [some (.ref l0), some (.ref l1), some (.ref l2), some (.int l3), none, none, none, none, some (.int l8), none] [] h (f_X10_steps_b402 G n h l0 l1 l2 l3 l8) := by
  intro n
  induction n with
  | zero => intros; exact X_none
  | succ n ih =>
    intro h l0 l1 l2 l3 l8
    rw [f_X10_steps_b402]
    refine X_iload rfl rfl rfl ?_
    refine X_iload_n rfl rfl rfl ?_
    refine X_bicmp_ge rfl rfl (fun _ => ?_) (fun _ => ?_)
    · refine X_aload_n rfl rfl rfl ?_
      refine X_getI rfl rfl (fun v409 => ?_)
      refine X_bif_eq rfl rfl (fun _ => ?_) (fun _ => ?_)
      · exact X_sub (g_sub_n (g_sub_n (g_sub_s (g_sub_n (g_sub_n (g_sub_n (g_sub_n (g_sub_n (g_sub_n (g_sub_n g_sub_0)))))))))) (b_X10_steps_b481  _ _)
      · refine X_aload_n rfl rfl rfl ?_
        refine X_getI rfl rfl (fun v416 => ?_)
        refine X_aload_n rfl rfl rfl ?_
        refine X_getA rfl rfl (fun v420 => ?_)
        refine X_aln rfl rfl (fun v423 => ?_)
        refine X_bicmp_ge rfl rfl (fun _ => ?_) (fun _ => ?_)
        · refine X_aload_n rfl rfl rfl ?_
          refine X_getI rfl rfl (fun v428 => ?_)
          refine X_aload_n rfl rfl rfl ?_
          refine X_getI rfl rfl (fun v432 => ?_)
          refine X_imul rfl rfl ?_
          refine X_iload rfl rfl rfl ?_
          refine X_iadd rfl rfl ?_
          refine X_istore rfl rfl rfl rfl ?_
          refine X_iload rfl rfl rfl ?_
          refine X_aload_n rfl rfl rfl ?_
          refine X_getA rfl rfl (fun v444 => ?_)
          refine X_aln rfl rfl (fun v447 => ?_)
          refine X_bicmp_ge rfl rfl (fun _ => ?_) (fun _ => ?_)
          · refine X_aload_n rfl rfl rfl ?_
            refine X_getA rfl rfl (fun v452 => ?_)
            refine X_iload rfl rfl rfl ?_
            refine X_ald rfl rfl (fun v457 => ?_)
            refine X_bif_ge rfl rfl (fun _ => ?_) (fun _ => ?_)
            · refine X_aload_n rfl rfl rfl ?_
              refine X_getA rfl rfl (fun v462 => ?_)
              refine X_iload rfl rfl rfl ?_
              refine X_aload_n rfl rfl rfl ?_
              refine X_getA rfl rfl (fun v468 => ?_)
              refine X_iload rfl rfl rfl ?_
              refine X_ald rfl rfl (fun v473 => ?_)
              refine X_ast rfl rfl (fun h474 => ?_)
              exact X_sub (g_sub_s (g_sub_s (g_sub_s (g_sub_s (g_sub_n (g_sub_n (g_sub_n (g_sub_n (g_sub_s (g_sub_n g_sub_0)))))))))) (b_X10_steps_b475 ih _ _ _ _ _ _)
            · exact X_sub (g_sub_s (g_sub_s (g_sub_s (g_sub_s (g_sub_n (g_sub_n (g_sub_n (g_sub_n (g_sub_s (g_sub_n g_sub_0)))))))))) (b_X10_steps_b475 ih _ _ _ _ _ _)
          · exact X_sub (g_sub_s (g_sub_s (g_sub_s (g_sub_s (g_sub_n (g_sub_n (g_sub_n (g_sub_n (g_sub_s (g_sub_n g_sub_0)))))))))) (b_X10_steps_b475 ih _ _ _ _ _ _)
        · exact X_sub (g_sub_n (g_sub_n (g_sub_s (g_sub_n (g_sub_n (g_sub_n (g_sub_n (g_sub_n (g_sub_n (g_sub_n g_sub_0)))))))))) (b_X10_steps_b481  _ _)
    · exact X_sub (g_sub_n (g_sub_n (g_sub_s (g_sub_n (g_sub_n (g_sub_n (g_sub_n (g_sub_n (g_sub_n (g_sub_n g_sub_0)))))))))) (b_X10_steps_b481  _ _)
set_option maxRecDepth 100000 in
theorem b_X10_steps_b396 {l : Launch} {G : gG} (h : gH) (l0 : Nat) (l1 : Nat) (l2 : Nat) (l3 : Int32) (s0 : Int32) (s1 : Nat) : GX l G M_X10_steps (g_phi G g_wU (m_R M_X10_steps).cells (m_R M_X10_steps).slots) 0 0 396 [some (.ref l0), some (.ref l1), some (.ref l2), some (.int l3), none, none, none, none, none, none] [.int s0, .ref s1] h (f_X10_steps_b396 G h l0 l1 l2 l3 s0 s1) := by
  unfold f_X10_steps_b396
  refine X_zv (fun zz396 => ?_)
  refine X_put rfl rfl rfl (g_znar zz396) (g_zfit zz396) (fun h396 => ?_)
  refine X_iconst (v := 0) rfl rfl (by decide) ?_
  refine X_istore rfl rfl rfl rfl ?_
  exact X_sub (g_sub_s (g_sub_s (g_sub_s (g_sub_s (g_sub_n (g_sub_n (g_sub_n (g_sub_n (g_sub_s (g_sub_n g_sub_0)))))))))) (b_X10_steps_b402 g_N _ _ _ _ _ _)
set_option maxRecDepth 100000 in
theorem b_X10_steps_b395 {l : Launch} {G : gG} (h : gH) (l0 : Nat) (l1 : Nat) (l2 : Nat) (l3 : Int32) (s0 : Nat) : GX l G M_X10_steps (g_phi G g_wU (m_R M_X10_steps).cells (m_R M_X10_steps).slots) 0 0 395 [some (.ref l0), some (.ref l1), some (.ref l2), some (.int l3), none, none, none, none, none, none] [.ref s0] h (f_X10_steps_b395 G h l0 l1 l2 l3 s0) := by
  unfold f_X10_steps_b395
  refine X_iconst (v := 0) rfl rfl (by decide) ?_
  exact X_sub (g_sub_s (g_sub_s (g_sub_s (g_sub_s (g_sub_n (g_sub_n (g_sub_n (g_sub_n (g_sub_n (g_sub_n g_sub_0)))))))))) (b_X10_steps_b396  _ _ _ _ _ _ _)
set_option maxRecDepth 100000 in
theorem b_X10_steps_b325 {l : Launch} {G : gG} : ∀ (n : Nat) (h : gH) (l0 : Nat) (l1 : Nat) (l2 : Nat) (l3 : Int32) (l6 : Int32) (l7 : Int32) (l8 : Int32), GX l G M_X10_steps (g_phi G g_wU (m_R M_X10_steps).cells (m_R M_X10_steps).slots) 0 0 325 [some (.ref l0), some (.ref l1), some (.ref l2), some (.int l3), none, none, some (.int l6), some (.int l7), some (.int l8), none] [] h (f_X10_steps_b325 G n h l0 l1 l2 l3 l6 l7 l8) := by
  intro n
  induction n with
  | zero => intros; exact X_none
  | succ n ih =>
    intro h l0 l1 l2 l3 l6 l7 l8
    rw [f_X10_steps_b325]
    refine X_iload rfl rfl rfl ?_
    refine X_iload_n rfl rfl rfl ?_
    refine X_bicmp_ge rfl rfl (fun _ => ?_) (fun _ => ?_)
    · refine X_iload rfl rfl rfl ?_
      refine X_aload_n rfl rfl rfl ?_
      refine X_aload_n rfl rfl rfl ?_
      refine X_getI rfl rfl (fun v335 => ?_)
      refine X_aload_n rfl rfl rfl ?_
      refine X_getI rfl rfl (fun v339 => ?_)
      refine X_imul rfl rfl ?_
      refine X_iload rfl rfl rfl ?_
      refine X_iadd rfl rfl ?_
      refine X_callV_IR (M' := M_X12_letter) (nA := 1) (As := [.int ((v335 * v339) + l8)]) (st := [.int l6]) (b := l1) (ci := 12) rfl rfl (by decide +kernel) rfl rfl rfl rfl rfl rfl rfl rfl (fun _ e => ct_X12_letter  e) (fun v346 => ?_)
      refine X_iadd rfl rfl ?_
      refine X_istore rfl rfl rfl rfl ?_
      refine X_iload rfl rfl rfl ?_
      refine X_aload_n rfl rfl rfl ?_
      refine X_getA rfl rfl (fun v355 => ?_)
      refine X_iload rfl rfl rfl ?_
      refine X_ald rfl rfl (fun v360 => ?_)
      refine X_iadd rfl rfl ?_
      refine X_istore rfl rfl rfl rfl ?_
      refine X_iinc (v := l8 + 1) rfl rfl rfl (congrArg (fun z => l8 + z) (by decide : Int32.ofInt 1 = 1)) rfl ?_
      refine X_goto rfl rfl ?_
      exact X_sub (g_sub_s (g_sub_s (g_sub_s (g_sub_s (g_sub_n (g_sub_n (g_sub_s (g_sub_s (g_sub_s (g_sub_n g_sub_0)))))))))) (ih _ _ _ _ _ _ _ _)
    · refine X_aload_n rfl rfl rfl ?_
      refine X_aload_n rfl rfl rfl ?_
      refine X_getI rfl rfl (fun v372 => ?_)
      refine X_bif_ne rfl rfl (fun _ => ?_) (fun _ => ?_)
      · refine X_iload rfl rfl rfl ?_
        refine X_bipush (v := 26) rfl rfl (by decide) ?_
        refine X_irem (v := g_rem l6 26) rfl rfl rfl (by decide) ?_
        refine X_iload rfl rfl rfl ?_
        refine X_bipush (v := 26) rfl rfl (by decide) ?_
        refine X_irem (v := g_rem l7 26) rfl rfl rfl (by decide) ?_
        refine X_bicmp_ne rfl rfl (fun _ => ?_) (fun _ => ?_)
        · refine X_iconst (v := 1) rfl rfl (by decide) ?_
          refine X_goto rfl rfl ?_
          exact X_sub (g_sub_s (g_sub_s (g_sub_s (g_sub_s (g_sub_n (g_sub_n (g_sub_n (g_sub_n (g_sub_n (g_sub_n g_sub_0)))))))))) (b_X10_steps_b396  _ _ _ _ _ _ _)
        · exact X_sub (g_sub_s (g_sub_s (g_sub_s (g_sub_s (g_sub_n (g_sub_n (g_sub_n (g_sub_n (g_sub_n (g_sub_n g_sub_0)))))))))) (b_X10_steps_b395  _ _ _ _ _ _)
      · exact X_sub (g_sub_s (g_sub_s (g_sub_s (g_sub_s (g_sub_n (g_sub_n (g_sub_n (g_sub_n (g_sub_n (g_sub_n g_sub_0)))))))))) (b_X10_steps_b395  _ _ _ _ _ _)
set_option maxRecDepth 100000 in
theorem b_X10_steps_b195 {l : Launch} {G : gG} (h : gH) (l0 : Nat) (l1 : Nat) (l2 : Nat) (l3 : Int32) (s0 : Int32) : GX l G M_X10_steps (g_phi G g_wU (m_R M_X10_steps).cells (m_R M_X10_steps).slots) 0 0 195 [some (.ref l0), some (.ref l1), some (.ref l2), some (.int l3), none, none, none, none, none, none] [.int s0] h (f_X10_steps_b195 G h l0 l1 l2 l3 s0) := by
  unfold f_X10_steps_b195
  refine X_istore rfl rfl rfl rfl ?_
  refine X_aload_n rfl rfl rfl ?_
  refine X_getI rfl rfl (fun v198 => ?_)
  refine X_bif_ne rfl rfl (fun _ => ?_) (fun _ => ?_)
  · refine X_aload_n rfl rfl rfl ?_
    refine X_aload_n rfl rfl rfl ?_
    refine X_getI rfl rfl (fun v206 => ?_)
    refine X_iload rfl rfl rfl ?_
    refine X_iadd rfl rfl ?_
    refine X_bipush (v := 26) rfl rfl (by decide) ?_
    refine X_irem (v := g_rem (v206 + s0) 26) rfl rfl rfl (by decide) ?_
    refine X_put rfl rfl rfl rfl rfl (fun h215 => ?_)
    refine X_goto rfl rfl ?_
    exact X_sub (g_sub_n (g_sub_n (g_sub_s (g_sub_n (g_sub_n (g_sub_n (g_sub_n (g_sub_n (g_sub_n (g_sub_n g_sub_0)))))))))) (b_X10_steps_b481  _ _)
  · refine X_aload_n rfl rfl rfl ?_
    refine X_getI rfl rfl (fun v222 => ?_)
    refine X_iload_n rfl rfl rfl ?_
    refine X_bicmp_gt rfl rfl (fun _ => ?_) (fun _ => ?_)
    · refine X_aload_n rfl rfl rfl ?_
      refine X_aload_n rfl rfl rfl ?_
      refine X_getI rfl rfl (fun v231 => ?_)
      refine X_aload_n rfl rfl rfl ?_
      refine X_getI rfl rfl (fun v235 => ?_)
      refine X_imul rfl rfl ?_
      refine X_aload_n rfl rfl rfl ?_
      refine X_getI rfl rfl (fun v240 => ?_)
      refine X_iadd rfl rfl ?_
      refine X_iconst (v := 1) rfl rfl (by decide) ?_
      refine X_isub rfl rfl ?_
      refine X_callV_IR (M' := M_X12_letter) (nA := 1) (As := [.int (((v231 * v235) + v240) - 1)]) (st := []) (b := l1) (ci := 12) rfl rfl (by decide +kernel) rfl rfl rfl rfl rfl rfl rfl rfl (fun _ e => ct_X12_letter  e) (fun v246 => ?_)
      refine X_aload_n rfl rfl rfl ?_
      refine X_aload_n rfl rfl rfl ?_
      refine X_getI rfl rfl (fun v251 => ?_)
      refine X_aload_n rfl rfl rfl ?_
      refine X_getI rfl rfl (fun v255 => ?_)
      refine X_callV_IR (M' := M_X10_key) (nA := 2) (As := [.int v251, .int v255]) (st := [.int v246]) (b := l0) (ci := 10) rfl rfl (by decide +kernel) rfl rfl rfl rfl rfl rfl rfl rfl (fun _ e => ct_X10_key  e) (fun v258 => ?_)
      refine X_iadd rfl rfl ?_
      refine X_iload rfl rfl rfl ?_
      refine X_iadd rfl rfl ?_
      refine X_bipush (v := 26) rfl rfl (by decide) ?_
      refine X_irem (v := g_rem ((v246 + v258) + s0) 26) rfl rfl rfl (by decide) ?_
      refine X_istore rfl rfl rfl rfl ?_
      refine X_aload_n rfl rfl rfl ?_
      refine X_getA rfl rfl (fun v271 => ?_)
      refine X_aload_n rfl rfl rfl ?_
      refine X_getI rfl rfl (fun v275 => ?_)
      refine X_iconst (v := 1) rfl rfl (by decide) ?_
      refine X_isub rfl rfl ?_
      refine X_iload rfl rfl rfl ?_
      refine X_aload_n rfl rfl rfl ?_
      refine X_iconst (v := 1) rfl rfl (by decide) ?_
      refine X_aload_n rfl rfl rfl ?_
      refine X_getI rfl rfl (fun v285 => ?_)
      refine X_isub rfl rfl ?_
      refine X_aload_n rfl rfl rfl ?_
      refine X_getI rfl rfl (fun v290 => ?_)
      refine X_callV_IR (M' := M_X10_key) (nA := 2) (As := [.int (1 - v285), .int v290]) (st := [.int (g_rem ((v246 + v258) + s0) 26), .int (v275 - 1), .ref v271]) (b := l0) (ci := 10) rfl rfl (by decide +kernel) rfl rfl rfl rfl rfl rfl rfl rfl (fun _ e => ct_X10_key  e) (fun v293 => ?_)
      refine X_isub rfl rfl ?_
      refine X_bipush (v := 26) rfl rfl (by decide) ?_
      refine X_iadd rfl rfl ?_
      refine X_bipush (v := 26) rfl rfl (by decide) ?_
      refine X_irem (v := g_rem (((g_rem ((v246 + v258) + s0) 26) - v293) + 26) 26) rfl rfl rfl (by decide) ?_
      refine X_ast rfl rfl (fun h303 => ?_)
      refine X_goto rfl rfl ?_
      exact X_sub (g_sub_n (g_sub_n (g_sub_s (g_sub_n (g_sub_n (g_sub_n (g_sub_n (g_sub_n (g_sub_n (g_sub_n g_sub_0)))))))))) (b_X10_steps_b481  _ _)
    · refine X_aload_n rfl rfl rfl ?_
      refine X_getI rfl rfl (fun v308 => ?_)
      refine X_iload rfl rfl rfl ?_
      refine X_iadd rfl rfl ?_
      refine X_istore rfl rfl rfl rfl ?_
      refine X_aload_n rfl rfl rfl ?_
      refine X_getI rfl rfl (fun v317 => ?_)
      refine X_istore rfl rfl rfl rfl ?_
      refine X_iconst (v := 0) rfl rfl (by decide) ?_
      refine X_istore rfl rfl rfl rfl ?_
      exact X_sub (g_sub_s (g_sub_s (g_sub_s (g_sub_s (g_sub_n (g_sub_n (g_sub_s (g_sub_s (g_sub_s (g_sub_n g_sub_0)))))))))) (b_X10_steps_b325 g_N _ _ _ _ _ _ _ _)
set_option maxRecDepth 100000 in
theorem b_X10_steps_b180 {l : Launch} {G : gG} (h : gH) (l0 : Nat) (l1 : Nat) (l2 : Nat) (l3 : Int32) (l4 : Int32) (s0 : Int32) (s1 : Int32) (s2 : Nat) : GX l G M_X10_steps (g_phi G g_wU (m_R M_X10_steps).cells (m_R M_X10_steps).slots) 0 0 180 [some (.ref l0), some (.ref l1), some (.ref l2), some (.int l3), some (.int l4), none, none, none, none, none] [.int s0, .int s1, .ref s2] h (f_X10_steps_b180 G h l0 l1 l2 l3 l4 s0 s1 s2) := by
  unfold f_X10_steps_b180
  refine X_ior rfl rfl ?_
  refine X_zv (fun zz181 => ?_)
  refine X_put rfl rfl rfl (g_znar zz181) (g_zfit zz181) (fun h181 => ?_)
  refine X_iload rfl rfl rfl ?_
  refine X_iconst (v := 1) rfl rfl (by decide) ?_
  refine X_bicmp_ne rfl rfl (fun _ => ?_) (fun _ => ?_)
  · refine X_iconst (v := 1) rfl rfl (by decide) ?_
    refine X_goto rfl rfl ?_
    exact X_sub (g_sub_s (g_sub_s (g_sub_s (g_sub_s (g_sub_n (g_sub_n (g_sub_n (g_sub_n (g_sub_n (g_sub_n g_sub_0)))))))))) (b_X10_steps_b195  _ _ _ _ _ _)
  · refine X_iconst (v := 0) rfl rfl (by decide) ?_
    exact X_sub (g_sub_s (g_sub_s (g_sub_s (g_sub_s (g_sub_n (g_sub_n (g_sub_n (g_sub_n (g_sub_n (g_sub_n g_sub_0)))))))))) (b_X10_steps_b195  _ _ _ _ _ _)
set_option maxRecDepth 100000 in
theorem b_X10_steps_b22 {l : Launch} {G : gG} (h : gH) (l0 : Nat) (l1 : Nat) (l2 : Nat) (l3 : Int32) : GX l G M_X10_steps (g_phi G g_wU (m_R M_X10_steps).cells (m_R M_X10_steps).slots) 0 0 22 [some (.ref l0), some (.ref l1), some (.ref l2), some (.int l3), none, none, none, none, none, none] [] h (f_X10_steps_b22 G h l0 l1 l2 l3) := by
  unfold f_X10_steps_b22
  refine X_aload_n rfl rfl rfl ?_
  refine X_aload_n rfl rfl rfl ?_
  refine X_kV_I (k1 := 0) (n1 := 0) (M' := M_X10_air) (nA := 1) (As := [.ref l2]) (st := []) (b := l0) (ci := 10) rfl rfl (by decide +kernel) rfl rfl rfl rfl rfl rfl rfl rfl (fun _ _ e => ct_X10_air  e) (fun y24 => ?_)
  refine X_istore rfl rfl rfl rfl ?_
  refine X_aload_n rfl rfl rfl ?_
  refine X_getI rfl rfl (fun v30 => ?_)
  refine X_iload_n rfl rfl rfl ?_
  refine X_iconst (v := 2) rfl rfl (by decide) ?_
  refine X_iadd rfl rfl ?_
  refine X_bicmp_ne rfl rfl (fun _ => ?_) (fun _ => ?_)
  · refine X_iload rfl rfl rfl ?_
    refine X_bif_ne rfl rfl (fun _ => ?_) (fun _ => ?_)
    · refine X_aload_n rfl rfl rfl ?_
      refine X_getI rfl rfl (fun v45 => ?_)
      refine X_bif_ne rfl rfl (fun _ => ?_) (fun _ => ?_)
      · exact X_sub (g_sub_s (g_sub_s (g_sub_s (g_sub_n (g_sub_s (g_sub_n (g_sub_n (g_sub_n (g_sub_n (g_sub_n g_sub_0)))))))))) (b_X10_steps_b51  _ _ _ _ _)
      · exact X_sub (g_sub_s (g_sub_s (g_sub_s (g_sub_n (g_sub_n (g_sub_n (g_sub_n (g_sub_n (g_sub_n (g_sub_n g_sub_0)))))))))) (b_X10_steps_b64  _ _ _ _)
    · exact X_sub (g_sub_s (g_sub_s (g_sub_s (g_sub_n (g_sub_s (g_sub_n (g_sub_n (g_sub_n (g_sub_n (g_sub_n g_sub_0)))))))))) (b_X10_steps_b51  _ _ _ _ _)
  · refine X_aload_n rfl rfl rfl ?_
    refine X_dup rfl rfl rfl ?_
    refine X_getI rfl rfl (fun v166 => ?_)
    refine X_iload rfl rfl rfl ?_
    refine X_iconst (v := 2) rfl rfl (by decide) ?_
    refine X_bicmp_ne rfl rfl (fun _ => ?_) (fun _ => ?_)
    · refine X_iconst (v := 1) rfl rfl (by decide) ?_
      refine X_goto rfl rfl ?_
      exact X_sub (g_sub_s (g_sub_s (g_sub_s (g_sub_s (g_sub_s (g_sub_n (g_sub_n (g_sub_n (g_sub_n (g_sub_n g_sub_0)))))))))) (b_X10_steps_b180  _ _ _ _ _ _ _ _ _)
    · refine X_iconst (v := 0) rfl rfl (by decide) ?_
      exact X_sub (g_sub_s (g_sub_s (g_sub_s (g_sub_s (g_sub_s (g_sub_n (g_sub_n (g_sub_n (g_sub_n (g_sub_n g_sub_0)))))))))) (b_X10_steps_b180  _ _ _ _ _ _ _ _ _)
set_option maxRecDepth 100000 in
theorem ct_X10_steps {l : Launch} {G : gG} {h : gH} {a0 : Nat} {p1 : Nat} {p2 : Nat} {h1 : gH} (e : f_X10_steps G h a0 p1 p2 = some h1) : Ct l G M_X10_steps [.ref a0, .ref p1, .ref p2] h none h1 := by
  refine Ct_of (L := [some (.ref a0), some (.ref p1), some (.ref p2), none, none, none, none, none, none, none]) ok_X10_steps (by decide +kernel) rfl rfl rfl (ρ := g_wU) (F := f_X10_steps G h a0 p1 p2) ?_ e rfl
  unfold f_X10_steps
  refine X_aload_n rfl rfl rfl ?_
  refine X_aload_n rfl rfl rfl ?_
  refine X_aload_n rfl rfl rfl ?_
  refine X_getI rfl rfl (fun v3 => ?_)
  refine X_callV_IR (M' := M_X10_letters) (nA := 2) (As := [.ref p1, .int v3]) (st := []) (b := a0) (ci := 10) rfl rfl (by decide +kernel) rfl rfl rfl rfl rfl rfl rfl rfl (fun _ e => ct_X10_letters  e) (fun v6 => ?_)
  refine X_istore_n rfl rfl rfl rfl ?_
  refine X_aload_n rfl rfl rfl ?_
  refine X_getI rfl rfl (fun v11 => ?_)
  refine X_bif_ne rfl rfl (fun _ => ?_) (fun _ => ?_)
  · refine X_aload_n rfl rfl rfl ?_
    refine X_iconst (v := 0) rfl rfl (by decide) ?_
    refine X_put rfl rfl rfl rfl rfl (fun h19 => ?_)
    exact X_sub (g_sub_s (g_sub_s (g_sub_s (g_sub_s (g_sub_n (g_sub_n (g_sub_n (g_sub_n (g_sub_n (g_sub_n g_sub_0)))))))))) (b_X10_steps_b22  _ _ _ _ _)
  · exact X_sub (g_sub_s (g_sub_s (g_sub_s (g_sub_s (g_sub_n (g_sub_n (g_sub_n (g_sub_n (g_sub_n (g_sub_n g_sub_0)))))))))) (b_X10_steps_b22  _ _ _ _ _)
def f_X10_next_b63 (G : gG) (h : gH) (K5 : Nat → Int32 → Int32 → Int32 → Option (Int32)) (K12 : Nat → Int32 → Int32 → Int32 → Int32 → Option (Int32)) (l0 : Nat) (l1 : Int32) (l2 : Int32) (l3 : Int32) (l4 : Int32) : Option (Int32) :=
  K12 l0 l1 l2 l3 (l4 + 1)
def f_X10_next_b12 (G : gG) (h : gH) (K5 : Nat → Int32 → Int32 → Int32 → Option (Int32)) : Nat → Nat → Int32 → Int32 → Int32 → Int32 → Option (Int32)
  | 0, _, _, _, _, _ => none
  | n + 1, l0, l1, l2, l3, l4 =>
    (g_gA h l0 10 1).bind fun v15 =>
    (g_aln h v15).bind fun v18 =>
    (if l4 < v18 then
      (g_gA h l0 10 1).bind fun v23 =>
      (g_qld h v23 8 l4).bind fun v28 =>
      v28.bind fun v28n =>
      (g_gI h v28n 12 5).bind fun v29 =>
      (if v29 ≤ 0 then
        (g_gA h l0 10 1).bind fun v36 =>
        (g_qld h v36 8 l4).bind fun v41 =>
        v41.bind fun v41n =>
        (g_gI h v41n 12 1).bind fun v42 =>
        (if v42 = l3 then
          (if l2 = l1 then
            some l4
          else
            f_X10_next_b63 G h K5 (f_X10_next_b12 G h K5 n) l0 l1 (l2 + 1) l3 l4)
        else
          f_X10_next_b63 G h K5 (f_X10_next_b12 G h K5 n) l0 l1 l2 l3 l4)
      else
        f_X10_next_b63 G h K5 (f_X10_next_b12 G h K5 n) l0 l1 l2 l3 l4)
    else
      K5 l0 l1 l2 (l3 + (-1)))
def f_X10_next_b5 (G : gG) (h : gH) : Nat → Nat → Int32 → Int32 → Int32 → Option (Int32)
  | 0, _, _, _, _ => none
  | n + 1, l0, l1, l2, l3 =>
    (if 0 ≤ l3 then
      f_X10_next_b12 G h (f_X10_next_b5 G h n) g_N l0 l1 l2 l3 0
    else
      some (-1))
def f_X10_next (G : gG) (h : gH) (a0 : Nat) (p1 : Int32) : Option (Int32) :=
  f_X10_next_b5 G h g_N a0 p1 0 9
set_option maxRecDepth 100000 in
theorem b_X10_next_b63 {l : Launch} {G : gG} {h : gH} {K5 : Nat → Int32 → Int32 → Int32 → Option (Int32)} {K12 : Nat → Int32 → Int32 → Int32 → Int32 → Option (Int32)} (hK5 : ∀ (l0 : Nat) (l1 : Int32) (l2 : Int32) (l3 : Int32), GX l G M_X10_next (g_phi G (g_rI h) (m_R M_X10_next).cells (m_R M_X10_next).slots) 0 0 5 [some (.ref l0), some (.int l1), some (.int l2), some (.int l3), none] [] h (K5 l0 l1 l2 l3)) (hK12 : ∀ (l0 : Nat) (l1 : Int32) (l2 : Int32) (l3 : Int32) (l4 : Int32), GX l G M_X10_next (g_phi G (g_rI h) (m_R M_X10_next).cells (m_R M_X10_next).slots) 0 0 12 [some (.ref l0), some (.int l1), some (.int l2), some (.int l3), some (.int l4)] [] h (K12 l0 l1 l2 l3 l4)) (l0 : Nat) (l1 : Int32) (l2 : Int32) (l3 : Int32) (l4 : Int32) : GX l G M_X10_next (g_phi G (g_rI h) (m_R M_X10_next).cells (m_R M_X10_next).slots) 0 0 63 [some (.ref l0), some (.int l1), some (.int l2), some (.int l3), some (.int l4)] [] h (f_X10_next_b63 G h K5 K12 l0 l1 l2 l3 l4) := by
  unfold f_X10_next_b63
  refine X_iinc (v := l4 + 1) rfl rfl rfl (congrArg (fun z => l4 + z) (by decide : Int32.ofInt 1 = 1)) rfl ?_
  refine X_goto rfl rfl ?_
  exact X_sub (g_sub_s (g_sub_s (g_sub_s (g_sub_s (g_sub_s g_sub_0))))) (hK12 _ _ _ _ _)
set_option maxRecDepth 100000 in
theorem b_X10_next_b12 {l : Launch} {G : gG} {h : gH} {K5 : Nat → Int32 → Int32 → Int32 → Option (Int32)} (hK5 : ∀ (l0 : Nat) (l1 : Int32) (l2 : Int32) (l3 : Int32), GX l G M_X10_next (g_phi G (g_rI h) (m_R M_X10_next).cells (m_R M_X10_next).slots) 0 0 5 [some (.ref l0), some (.int l1), some (.int l2), some (.int l3), none] [] h (K5 l0 l1 l2 l3)) : ∀ (n : Nat) (l0 : Nat) (l1 : Int32) (l2 : Int32) (l3 : Int32) (l4 : Int32), GX l G M_X10_next (g_phi G (g_rI h) (m_R M_X10_next).cells (m_R M_X10_next).slots) 0 0 12 [some (.ref l0), some (.int l1), some (.int l2), some (.int l3), some (.int l4)] [] h (f_X10_next_b12 G h K5 n l0 l1 l2 l3 l4) := by
  intro n
  induction n with
  | zero => intros; exact X_none
  | succ n ih =>
    intro l0 l1 l2 l3 l4
    rw [f_X10_next_b12]
    refine X_iload rfl rfl rfl ?_
    refine X_aload_n rfl rfl rfl ?_
    refine X_getA rfl rfl (fun v15 => ?_)
    refine X_aln rfl rfl (fun v18 => ?_)
    refine X_bicmp_ge rfl rfl (fun _ => ?_) (fun _ => ?_)
    · refine X_aload_n rfl rfl rfl ?_
      refine X_getA rfl rfl (fun v23 => ?_)
      refine X_iload rfl rfl rfl ?_
      refine X_qld9 (t := 8) rfl rfl (by simp) (fun v28 => ?_)
      refine X_nn (fun v28n e28 => ?_)
      subst e28
      refine X_getI rfl rfl (fun v29 => ?_)
      refine X_bif_gt rfl rfl (fun _ => ?_) (fun _ => ?_)
      · refine X_aload_n rfl rfl rfl ?_
        refine X_getA rfl rfl (fun v36 => ?_)
        refine X_iload rfl rfl rfl ?_
        refine X_qld9 (t := 8) rfl rfl (by simp) (fun v41 => ?_)
        refine X_nn (fun v41n e41 => ?_)
        subst e41
        refine X_getI rfl rfl (fun v42 => ?_)
        refine X_iload_n rfl rfl rfl ?_
        refine X_bicmp_eq rfl rfl (fun _ => ?_) (fun _ => ?_)
        · refine X_iload_n rfl rfl rfl ?_
          refine X_iload_n rfl rfl rfl ?_
          refine X_bicmp_ne rfl rfl (fun _ => ?_) (fun _ => ?_)
          · refine X_iload rfl rfl rfl ?_
            exact X_iret rfl rfl rfl rfl rfl rfl rfl
          · refine X_iinc (v := l2 + 1) rfl rfl rfl (congrArg (fun z => l2 + z) (by decide : Int32.ofInt 1 = 1)) rfl ?_
            exact X_sub (g_sub_s (g_sub_s (g_sub_s (g_sub_s (g_sub_s g_sub_0))))) (b_X10_next_b63 hK5 ih _ _ _ _ _)
        · refine X_goto rfl rfl ?_
          exact X_sub (g_sub_s (g_sub_s (g_sub_s (g_sub_s (g_sub_s g_sub_0))))) (b_X10_next_b63 hK5 ih _ _ _ _ _)
      · exact X_sub (g_sub_s (g_sub_s (g_sub_s (g_sub_s (g_sub_s g_sub_0))))) (b_X10_next_b63 hK5 ih _ _ _ _ _)
    · refine X_iinc (v := l3 + (-1)) rfl rfl rfl (congrArg (fun z => l3 + z) (by decide : Int32.ofInt (-1) = (-1))) rfl ?_
      refine X_goto rfl rfl ?_
      exact X_sub (g_sub_s (g_sub_s (g_sub_s (g_sub_s (g_sub_n g_sub_0))))) (hK5 _ _ _ _)
set_option maxRecDepth 100000 in
theorem b_X10_next_b5 {l : Launch} {G : gG} {h : gH} : ∀ (n : Nat) (l0 : Nat) (l1 : Int32) (l2 : Int32) (l3 : Int32), GX l G M_X10_next (g_phi G (g_rI h) (m_R M_X10_next).cells (m_R M_X10_next).slots) 0 0 5 [some (.ref l0), some (.int l1), some (.int l2), some (.int l3), none] [] h (f_X10_next_b5 G h n l0 l1 l2 l3) := by
  intro n
  induction n with
  | zero => intros; exact X_none
  | succ n ih =>
    intro l0 l1 l2 l3
    rw [f_X10_next_b5]
    refine X_iload_n rfl rfl rfl ?_
    refine X_bif_lt rfl rfl (fun _ => ?_) (fun _ => ?_)
    · refine X_iconst (v := 0) rfl rfl (by decide) ?_
      refine X_istore rfl rfl rfl rfl ?_
      exact X_sub (g_sub_s (g_sub_s (g_sub_s (g_sub_s (g_sub_s g_sub_0))))) (b_X10_next_b12 ih g_N _ _ _ _ _)
    · refine X_iconst (v := -1) rfl rfl (by decide) ?_
      exact X_iret rfl rfl rfl rfl rfl rfl rfl
set_option maxRecDepth 100000 in
theorem ct_X10_next {l : Launch} {G : gG} {h : gH} {a0 : Nat} {p1 : Int32} {r : Int32} (e : f_X10_next G h a0 p1 = some r) : Ct l G M_X10_next [.ref a0, .int p1] h (some (.int r)) h := by
  refine Ct_of (L := [some (.ref a0), some (.int p1), none, none, none]) ok_X10_next (by decide +kernel) rfl rfl rfl (ρ := (g_rI h)) (F := f_X10_next G h a0 p1) ?_ e rfl
  unfold f_X10_next
  refine X_iconst (v := 0) rfl rfl (by decide) ?_
  refine X_istore_n rfl rfl rfl rfl ?_
  refine X_bipush (v := 9) rfl rfl (by decide) ?_
  refine X_istore_n rfl rfl rfl rfl ?_
  exact X_sub (g_sub_s (g_sub_s (g_sub_s (g_sub_s (g_sub_n g_sub_0))))) (b_X10_next_b5 g_N _ _ _ _)
def f_X10_ticks_b287 (G : gG) (K65 : gH → Nat → Int32 → Nat → Int32 → Int32 → Option (Int32 × gH)) (h : gH) (l0 : Nat) (l1 : Int32) (l2 : Nat) (l3 : Int32) (l4 : Int32) : Option (Int32 × gH) :=
  K65 h l0 l1 l2 l3 (l4 + 1)
def f_X10_ticks_b177 (G : gG) (K65 : gH → Nat → Int32 → Nat → Int32 → Int32 → Option (Int32 × gH)) (K116 : gH → Nat → Int32 → Nat → Int32 → Int32 → Nat → Nat → Int32 → Option (Int32 × gH)) (h : gH) (l0 : Nat) (l1 : Int32) (l2 : Nat) (l3 : Int32) (l4 : Int32) (l5 : Nat) (l6 : Nat) (l7 : Int32) : Option (Int32 × gH) :=
  K116 h l0 l1 l2 l3 l4 l5 l6 (l7 + 1)
def f_X10_ticks_b247 (G : gG) (K65 : gH → Nat → Int32 → Nat → Int32 → Int32 → Option (Int32 × gH)) (K217 : gH → Nat → Int32 → Nat → Int32 → Int32 → Nat → Int32 → Nat → Int32 → Int32 → Option (Int32 × gH)) (h : gH) (l0 : Nat) (l1 : Int32) (l2 : Nat) (l3 : Int32) (l4 : Int32) (l6 : Nat) (l8 : Nat) (l9 : Int32) (l10 : Int32) (s0 : Int32) (s1 : Int32) : Option (Int32 × gH) :=
  K217 h l0 l1 l2 l3 l4 l6 (s1 &&& s0) l8 l9 (l10 + 1)
def f_X10_ticks_b217 (G : gG) (K65 : gH → Nat → Int32 → Nat → Int32 → Int32 → Option (Int32 × gH)) : Nat → gH → Nat → Int32 → Nat → Int32 → Int32 → Nat → Int32 → Nat → Int32 → Int32 → Option (Int32 × gH)
  | 0, _, _, _, _, _, _, _, _, _, _, _ => none
  | n + 1, h, l0, l1, l2, l3, l4, l6, l7, l8, l9, l10 =>
    (if l10 < l9 then
      (g_qld h l8 6 l10).bind fun v228 =>
      v228.bind fun v228n =>
      (g_gI h v228n 8 0).bind fun v235 =>
      (if 1 < v235 then
        f_X10_ticks_b247 G K65 (f_X10_ticks_b217 G K65 n) h l0 l1 l2 l3 l4 l6 l8 l9 l10 1 l7
      else
        f_X10_ticks_b247 G K65 (f_X10_ticks_b217 G K65 n) h l0 l1 l2 l3 l4 l6 l8 l9 l10 0 l7)
    else
      (if l7 = 0 then
        f_X10_ticks_b287 G K65 h l0 l1 l2 l3 l4
      else
        (g_put h l6 12 5 (.int 2)).bind fun h267 =>
        (g_gI h267 l0 10 6).bind fun v273 =>
        (g_put h267 l6 12 7 (.int v273)).bind fun h276 =>
        (g_put h276 l0 10 7 (.int (-1))).bind fun h281 =>
        f_X10_ticks_b287 G K65 h281 l0 (l1 + 1) l2 l3 l4))
def f_X10_ticks_b199 (G : gG) (K65 : gH → Nat → Int32 → Nat → Int32 → Int32 → Option (Int32 × gH)) (h : gH) (l0 : Nat) (l1 : Int32) (l2 : Nat) (l3 : Int32) (l4 : Int32) (l6 : Nat) : Option (Int32 × gH) :=
  (g_gA h l6 12 4).bind fun v204 =>
  (g_aln h v204).bind fun v211 =>
  f_X10_ticks_b217 G K65 g_N h l0 l1 l2 l3 l4 l6 1 v204 v211 0
def f_X10_ticks_b183 (G : gG) (K65 : gH → Nat → Int32 → Nat → Int32 → Int32 → Option (Int32 × gH)) (h : gH) (l0 : Nat) (l1 : Int32) (l2 : Nat) (l3 : Int32) (l4 : Int32) (l5 : Nat) (l6 : Nat) : Option (Int32 × gH) :=
  (g_gI h l5 9 3).bind fun v185 =>
  (if 0 ≤ v185 then
    bif g_is h l0 10 then
    (f_X10_steps G h l0 l6 l5).bind fun h196 =>
    f_X10_ticks_b199 G K65 h196 l0 l1 l2 l3 l4 l6
    else none
  else
    f_X10_ticks_b199 G K65 h l0 l1 l2 l3 l4 l6)
def f_X10_ticks_b116 (G : gG) (K65 : gH → Nat → Int32 → Nat → Int32 → Int32 → Option (Int32 × gH)) : Nat → gH → Nat → Int32 → Nat → Int32 → Int32 → Nat → Nat → Int32 → Option (Int32 × gH)
  | 0, _, _, _, _, _, _, _, _, _ => none
  | n + 1, h, l0, l1, l2, l3, l4, l5, l6, l7 =>
    (g_gA h l6 12 4).bind fun v120 =>
    (g_aln h v120).bind fun v123 =>
    (if l7 < v123 then
      (g_gI h l5 9 3).bind fun v129 =>
      (if v129 < 0 then
        (g_gA h l6 12 4).bind fun v137 =>
        (g_qld h v137 6 l7).bind fun v142 =>
        v142.bind fun v142n =>
        (g_gI h v142n 8 0).bind fun v143 =>
        (if 0 < v143 then
          f_X10_ticks_b177 G K65 (f_X10_ticks_b116 G K65 n) h l0 l1 l2 l3 l4 l5 l6 l7
        else
          (g_gA h l6 12 4).bind fun v154 =>
          (g_qld h v154 6 l7).bind fun v159 =>
          v159.bind fun v159n =>
          (g_put h v159n 8 0 (.int 1)).bind fun h161 =>
          (g_put h161 l5 9 3 (.int l7)).bind fun h168 =>
          (g_put h168 l5 9 4 (.int 0)).bind fun h174 =>
          f_X10_ticks_b177 G K65 (f_X10_ticks_b116 G K65 n) h174 l0 l1 l2 l3 l4 l5 l6 l7)
      else
        f_X10_ticks_b183 G K65 h l0 l1 l2 l3 l4 l5 l6)
    else
      f_X10_ticks_b183 G K65 h l0 l1 l2 l3 l4 l5 l6)
def f_X10_ticks_b65 (G : gG) : Nat → gH → Nat → Int32 → Nat → Int32 → Int32 → Option (Int32 × gH)
  | 0, _, _, _, _, _, _ => none
  | n + 1, h, l0, l1, l2, l3, l4 =>
    (if l4 < l3 then
      (g_qld h l2 7 l4).bind fun v74 =>
      v74.bind fun v74n =>
      (g_gI h l0 10 7).bind fun v78 =>
      (if 0 ≤ v78 then
        (g_gI h l0 10 6).bind fun v87 =>
        bif g_is h v74n 9 then
        (f_X9_isOpen G h v74n (g_rem v87 24)).bind fun v93 =>
        (if v93 = 0 then
          f_X10_ticks_b287 G (f_X10_ticks_b65 G n) h l0 l1 l2 l3 l4
        else
          (g_gA h l0 10 1).bind fun v103 =>
          (g_gI h l0 10 7).bind fun v107 =>
          (g_qld h v103 8 v107).bind fun v110 =>
          v110.bind fun v110n =>
          f_X10_ticks_b116 G (f_X10_ticks_b65 G n) g_N h l0 l1 l2 l3 l4 v74n v110n 0)
        else none
      else
        f_X10_ticks_b287 G (f_X10_ticks_b65 G n) h l0 l1 l2 l3 l4)
    else
      (g_gI h l0 10 6).bind fun v295 =>
      (g_put h l0 10 6 (.int (v295 + 1))).bind fun h300 =>
      some (l1, h300))
def f_X10_ticks_b54 (G : gG) (h : gH) (l0 : Nat) (l1 : Int32) : Option (Int32 × gH) :=
  (g_gA h l0 10 0).bind fun v55 =>
  (g_aln h v55).bind fun v60 =>
  f_X10_ticks_b65 G g_N h l0 l1 v55 v60 0
def f_X10_ticks (G : gG) (h : gH) (a0 : Nat) : Option (Int32 × gH) :=
  (g_gI h a0 10 7).bind fun v3 =>
  (if v3 < 0 then
    bif g_is h a0 10 then
    (f_X10_next G h a0 0).bind fun v12 =>
    (g_put h a0 10 7 (.int v12)).bind fun h15 =>
    (g_gI h15 a0 10 7).bind fun v19 =>
    (if 0 ≤ v19 then
      (g_gA h15 a0 10 1).bind fun v26 =>
      (g_gI h15 a0 10 7).bind fun v30 =>
      (g_qld h15 v26 8 v30).bind fun v33 =>
      v33.bind fun v33n =>
      (g_put h15 v33n 12 5 (.int 1)).bind fun h35 =>
      (g_gA h35 a0 10 1).bind fun v39 =>
      (g_gI h35 a0 10 7).bind fun v43 =>
      (g_qld h35 v39 8 v43).bind fun v46 =>
      v46.bind fun v46n =>
      (g_gI h35 a0 10 6).bind fun v48 =>
      (g_put h35 v46n 12 6 (.int v48)).bind fun h51 =>
      f_X10_ticks_b54 G h51 a0 0
    else
      f_X10_ticks_b54 G h15 a0 0)
    else none
  else
    f_X10_ticks_b54 G h a0 0)
set_option maxRecDepth 100000 in
theorem b_X10_ticks_b287 {l : Launch} {G : gG} {K65 : gH → Nat → Int32 → Nat → Int32 → Int32 → Option (Int32 × gH)} (hK65 : ∀ (h : gH) (l0 : Nat) (l1 : Int32) (l2 : Nat) (l3 : Int32) (l4 : Int32), GX l G M_X10_ticks (g_phi G g_wI (m_R M_X10_ticks).cells (m_R M_X10_ticks).slots) 0 0 65 [some (.ref l0), some (.int l1), some (.ref l2), some (.int l3), some (.int l4), none, none, none, none, none, none, none] [] h (K65 h l0 l1 l2 l3 l4)) (h : gH) (l0 : Nat) (l1 : Int32) (l2 : Nat) (l3 : Int32) (l4 : Int32) : GX l G M_X10_ticks (g_phi G g_wI (m_R M_X10_ticks).cells (m_R M_X10_ticks).slots) 0 0 287 [some (.ref l0), some (.int l1), some (.ref l2), some (.int l3), some (.int l4), none, none, none, none, none, none, none] [] h (f_X10_ticks_b287 G K65 h l0 l1 l2 l3 l4) := by
  unfold f_X10_ticks_b287
  refine X_iinc (v := l4 + 1) rfl rfl rfl (congrArg (fun z => l4 + z) (by decide : Int32.ofInt 1 = 1)) rfl ?_
  refine X_goto rfl rfl ?_
  exact X_sub (g_sub_s (g_sub_s (g_sub_s (g_sub_s (g_sub_s (g_sub_n (g_sub_n (g_sub_n (g_sub_n (g_sub_n (g_sub_n (g_sub_n g_sub_0)))))))))))) (hK65 _ _ _ _ _ _)
set_option maxRecDepth 100000 in
theorem b_X10_ticks_b177 {l : Launch} {G : gG} {K65 : gH → Nat → Int32 → Nat → Int32 → Int32 → Option (Int32 × gH)} {K116 : gH → Nat → Int32 → Nat → Int32 → Int32 → Nat → Nat → Int32 → Option (Int32 × gH)} (hK65 : ∀ (h : gH) (l0 : Nat) (l1 : Int32) (l2 : Nat) (l3 : Int32) (l4 : Int32), GX l G M_X10_ticks (g_phi G g_wI (m_R M_X10_ticks).cells (m_R M_X10_ticks).slots) 0 0 65 [some (.ref l0), some (.int l1), some (.ref l2), some (.int l3), some (.int l4), none, none, none, none, none, none, none] [] h (K65 h l0 l1 l2 l3 l4)) (hK116 : ∀ (h : gH) (l0 : Nat) (l1 : Int32) (l2 : Nat) (l3 : Int32) (l4 : Int32) (l5 : Nat) (l6 : Nat) (l7 : Int32), GX l G M_X10_ticks (g_phi G g_wI (m_R M_X10_ticks).cells (m_R M_X10_ticks).slots) 0 0 116 [some (.ref l0), some (.int l1), some (.ref l2), some (.int l3), some (.int l4), some (.ref l5), some (.ref l6), some (.int l7), none, none, none, none] [] h (K116 h l0 l1 l2 l3 l4 l5 l6 l7)) (h : gH) (l0 : Nat) (l1 : Int32) (l2 : Nat) (l3 : Int32) (l4 : Int32) (l5 : Nat) (l6 : Nat) (l7 : Int32) : GX l G M_X10_ticks (g_phi G g_wI (m_R M_X10_ticks).cells (m_R M_X10_ticks).slots) 0 0 177 [some (.ref l0), some (.int l1), some (.ref l2), some (.int l3), some (.int l4), some (.ref l5), some (.ref l6), some (.int l7), none, none, none, none] [] h (f_X10_ticks_b177 G K65 K116 h l0 l1 l2 l3 l4 l5 l6 l7) := by
  unfold f_X10_ticks_b177
  refine X_iinc (v := l7 + 1) rfl rfl rfl (congrArg (fun z => l7 + z) (by decide : Int32.ofInt 1 = 1)) rfl ?_
  refine X_goto rfl rfl ?_
  exact X_sub (g_sub_s (g_sub_s (g_sub_s (g_sub_s (g_sub_s (g_sub_s (g_sub_s (g_sub_s (g_sub_n (g_sub_n (g_sub_n (g_sub_n g_sub_0)))))))))))) (hK116 _ _ _ _ _ _ _ _ _)
set_option maxRecDepth 100000 in
theorem b_X10_ticks_b247 {l : Launch} {G : gG} {K65 : gH → Nat → Int32 → Nat → Int32 → Int32 → Option (Int32 × gH)} {K217 : gH → Nat → Int32 → Nat → Int32 → Int32 → Nat → Int32 → Nat → Int32 → Int32 → Option (Int32 × gH)} (hK65 : ∀ (h : gH) (l0 : Nat) (l1 : Int32) (l2 : Nat) (l3 : Int32) (l4 : Int32), GX l G M_X10_ticks (g_phi G g_wI (m_R M_X10_ticks).cells (m_R M_X10_ticks).slots) 0 0 65 [some (.ref l0), some (.int l1), some (.ref l2), some (.int l3), some (.int l4), none, none, none, none, none, none, none] [] h (K65 h l0 l1 l2 l3 l4)) (hK217 : ∀ (h : gH) (l0 : Nat) (l1 : Int32) (l2 : Nat) (l3 : Int32) (l4 : Int32) (l6 : Nat) (l7 : Int32) (l8 : Nat) (l9 : Int32) (l10 : Int32), GX l G M_X10_ticks (g_phi G g_wI (m_R M_X10_ticks).cells (m_R M_X10_ticks).slots) 0 0 217 [some (.ref l0), some (.int l1), some (.ref l2), some (.int l3), some (.int l4), none, some (.ref l6), some (.int l7), some (.ref l8), some (.int l9), some (.int l10), none] [] h (K217 h l0 l1 l2 l3 l4 l6 l7 l8 l9 l10)) (h : gH) (l0 : Nat) (l1 : Int32) (l2 : Nat) (l3 : Int32) (l4 : Int32) (l6 : Nat) (l8 : Nat) (l9 : Int32) (l10 : Int32) (s0 : Int32) (s1 : Int32) : GX l G M_X10_ticks (g_phi G g_wI (m_R M_X10_ticks).cells (m_R M_X10_ticks).slots) 0 0 247 [some (.ref l0), some (.int l1), some (.ref l2), some (.int l3), some (.int l4), none, some (.ref l6), none, some (.ref l8), some (.int l9), some (.int l10), none] [.int s0, .int s1] h (f_X10_ticks_b247 G K65 K217 h l0 l1 l2 l3 l4 l6 l8 l9 l10 s0 s1) := by
  unfold f_X10_ticks_b247
  refine X_iand rfl rfl ?_
  refine X_istore rfl rfl rfl rfl ?_
  refine X_iinc (v := l10 + 1) rfl rfl rfl (congrArg (fun z => l10 + z) (by decide : Int32.ofInt 1 = 1)) rfl ?_
  refine X_goto rfl rfl ?_
  exact X_sub (g_sub_s (g_sub_s (g_sub_s (g_sub_s (g_sub_s (g_sub_n (g_sub_s (g_sub_s (g_sub_s (g_sub_s (g_sub_s (g_sub_n g_sub_0)))))))))))) (hK217 _ _ _ _ _ _ _ _ _ _ _)
set_option maxRecDepth 100000 in
theorem b_X10_ticks_b217 {l : Launch} {G : gG} {K65 : gH → Nat → Int32 → Nat → Int32 → Int32 → Option (Int32 × gH)} (hK65 : ∀ (h : gH) (l0 : Nat) (l1 : Int32) (l2 : Nat) (l3 : Int32) (l4 : Int32), GX l G M_X10_ticks (g_phi G g_wI (m_R M_X10_ticks).cells (m_R M_X10_ticks).slots) 0 0 65 [some (.ref l0), some (.int l1), some (.ref l2), some (.int l3), some (.int l4), none, none, none, none, none, none, none] [] h (K65 h l0 l1 l2 l3 l4)) : ∀ (n : Nat) (h : gH) (l0 : Nat) (l1 : Int32) (l2 : Nat) (l3 : Int32) (l4 : Int32) (l6 : Nat) (l7 : Int32) (l8 : Nat) (l9 : Int32) (l10 : Int32), GX l G M_X10_ticks (g_phi G g_wI (m_R M_X10_ticks).cells (m_R M_X10_ticks).slots) 0 0 217 [some (.ref l0), some (.int l1), some (.ref l2), some (.int l3), some (.int l4), none, some (.ref l6), some (.int l7), some (.ref l8), some (.int l9), some (.int l10), none] [] h (f_X10_ticks_b217 G K65 n h l0 l1 l2 l3 l4 l6 l7 l8 l9 l10) := by
  intro n
  induction n with
  | zero => intros; exact X_none
  | succ n ih =>
    intro h l0 l1 l2 l3 l4 l6 l7 l8 l9 l10
    rw [f_X10_ticks_b217]
    refine X_iload rfl rfl rfl ?_
    refine X_iload rfl rfl rfl ?_
    refine X_bicmp_ge rfl rfl (fun _ => ?_) (fun _ => ?_)
    · refine X_aload rfl rfl rfl ?_
      refine X_iload rfl rfl rfl ?_
      refine X_qld9 (t := 6) rfl rfl (by simp) (fun v228 => ?_)
      refine X_nn (fun v228n e228 => ?_)
      subst e228
      refine X_astore rfl rfl rfl rfl ?_
      refine X_iload rfl rfl rfl ?_
      refine X_aload rfl rfl rfl ?_
      refine X_getI rfl rfl (fun v235 => ?_)
      refine X_iconst (v := 1) rfl rfl (by decide) ?_
      refine X_bicmp_le rfl rfl (fun _ => ?_) (fun _ => ?_)
      · refine X_iconst (v := 1) rfl rfl (by decide) ?_
        refine X_goto rfl rfl ?_
        exact X_sub (g_sub_s (g_sub_s (g_sub_s (g_sub_s (g_sub_s (g_sub_n (g_sub_s (g_sub_n (g_sub_s (g_sub_s (g_sub_s (g_sub_n g_sub_0)))))))))))) (b_X10_ticks_b247 hK65 ih _ _ _ _ _ _ _ _ _ _ _ _)
      · refine X_iconst (v := 0) rfl rfl (by decide) ?_
        exact X_sub (g_sub_s (g_sub_s (g_sub_s (g_sub_s (g_sub_s (g_sub_n (g_sub_s (g_sub_n (g_sub_s (g_sub_s (g_sub_s (g_sub_n g_sub_0)))))))))))) (b_X10_ticks_b247 hK65 ih _ _ _ _ _ _ _ _ _ _ _ _)
    · refine X_iload rfl rfl rfl ?_
      refine X_bif_ne rfl rfl (fun _ => ?_) (fun _ => ?_)
      · refine X_goto rfl rfl ?_
        exact X_sub (g_sub_s (g_sub_s (g_sub_s (g_sub_s (g_sub_s (g_sub_n (g_sub_n (g_sub_n (g_sub_n (g_sub_n (g_sub_n (g_sub_n g_sub_0)))))))))))) (b_X10_ticks_b287 hK65 _ _ _ _ _ _)
      · refine X_aload rfl rfl rfl ?_
        refine X_iconst (v := 2) rfl rfl (by decide) ?_
        refine X_put rfl rfl rfl rfl rfl (fun h267 => ?_)
        refine X_aload rfl rfl rfl ?_
        refine X_aload_n rfl rfl rfl ?_
        refine X_getI rfl rfl (fun v273 => ?_)
        refine X_put rfl rfl rfl rfl rfl (fun h276 => ?_)
        refine X_aload_n rfl rfl rfl ?_
        refine X_iconst (v := -1) rfl rfl (by decide) ?_
        refine X_put rfl rfl rfl rfl rfl (fun h281 => ?_)
        refine X_iinc (v := l1 + 1) rfl rfl rfl (congrArg (fun z => l1 + z) (by decide : Int32.ofInt 1 = 1)) rfl ?_
        exact X_sub (g_sub_s (g_sub_s (g_sub_s (g_sub_s (g_sub_s (g_sub_n (g_sub_n (g_sub_n (g_sub_n (g_sub_n (g_sub_n (g_sub_n g_sub_0)))))))))))) (b_X10_ticks_b287 hK65 _ _ _ _ _ _)
set_option maxRecDepth 100000 in
theorem b_X10_ticks_b199 {l : Launch} {G : gG} {K65 : gH → Nat → Int32 → Nat → Int32 → Int32 → Option (Int32 × gH)} (hK65 : ∀ (h : gH) (l0 : Nat) (l1 : Int32) (l2 : Nat) (l3 : Int32) (l4 : Int32), GX l G M_X10_ticks (g_phi G g_wI (m_R M_X10_ticks).cells (m_R M_X10_ticks).slots) 0 0 65 [some (.ref l0), some (.int l1), some (.ref l2), some (.int l3), some (.int l4), none, none, none, none, none, none, none] [] h (K65 h l0 l1 l2 l3 l4)) (h : gH) (l0 : Nat) (l1 : Int32) (l2 : Nat) (l3 : Int32) (l4 : Int32) (l6 : Nat) : GX l G M_X10_ticks (g_phi G g_wI (m_R M_X10_ticks).cells (m_R M_X10_ticks).slots) 0 0 199 [some (.ref l0), some (.int l1), some (.ref l2), some (.int l3), some (.int l4), none, some (.ref l6), none, none, none, none, none] [] h (f_X10_ticks_b199 G K65 h l0 l1 l2 l3 l4 l6) := by
  unfold f_X10_ticks_b199
  refine X_iconst (v := 1) rfl rfl (by decide) ?_
  refine X_istore rfl rfl rfl rfl ?_
  refine X_aload rfl rfl rfl ?_
  refine X_getA rfl rfl (fun v204 => ?_)
  refine X_astore rfl rfl rfl rfl ?_
  refine X_aload rfl rfl rfl ?_
  refine X_aln rfl rfl (fun v211 => ?_)
  refine X_istore rfl rfl rfl rfl ?_
  refine X_iconst (v := 0) rfl rfl (by decide) ?_
  refine X_istore rfl rfl rfl rfl ?_
  exact X_sub (g_sub_s (g_sub_s (g_sub_s (g_sub_s (g_sub_s (g_sub_n (g_sub_s (g_sub_s (g_sub_s (g_sub_s (g_sub_s (g_sub_n g_sub_0)))))))))))) (b_X10_ticks_b217 hK65 g_N _ _ _ _ _ _ _ _ _ _ _)
set_option maxRecDepth 100000 in
theorem b_X10_ticks_b183 {l : Launch} {G : gG} {K65 : gH → Nat → Int32 → Nat → Int32 → Int32 → Option (Int32 × gH)} (hK65 : ∀ (h : gH) (l0 : Nat) (l1 : Int32) (l2 : Nat) (l3 : Int32) (l4 : Int32), GX l G M_X10_ticks (g_phi G g_wI (m_R M_X10_ticks).cells (m_R M_X10_ticks).slots) 0 0 65 [some (.ref l0), some (.int l1), some (.ref l2), some (.int l3), some (.int l4), none, none, none, none, none, none, none] [] h (K65 h l0 l1 l2 l3 l4)) (h : gH) (l0 : Nat) (l1 : Int32) (l2 : Nat) (l3 : Int32) (l4 : Int32) (l5 : Nat) (l6 : Nat) : GX l G M_X10_ticks (g_phi G g_wI (m_R M_X10_ticks).cells (m_R M_X10_ticks).slots) 0 0 183 [some (.ref l0), some (.int l1), some (.ref l2), some (.int l3), some (.int l4), some (.ref l5), some (.ref l6), none, none, none, none, none] [] h (f_X10_ticks_b183 G K65 h l0 l1 l2 l3 l4 l5 l6) := by
  unfold f_X10_ticks_b183
  refine X_aload rfl rfl rfl ?_
  refine X_getI rfl rfl (fun v185 => ?_)
  refine X_bif_lt rfl rfl (fun _ => ?_) (fun _ => ?_)
  · refine X_aload_n rfl rfl rfl ?_
    refine X_aload rfl rfl rfl ?_
    refine X_aload rfl rfl rfl ?_
    refine X_kV_U (k1 := 0) (n1 := 0) (M' := M_X10_steps) (nA := 2) (As := [.ref l6, .ref l5]) (st := []) (b := l0) (ci := 10) rfl rfl (by decide +kernel) rfl rfl rfl rfl rfl rfl rfl rfl (fun _ e => ct_X10_steps  e) (fun h196 => ?_)
    exact X_sub (g_sub_s (g_sub_s (g_sub_s (g_sub_s (g_sub_s (g_sub_n (g_sub_s (g_sub_n (g_sub_n (g_sub_n (g_sub_n (g_sub_n g_sub_0)))))))))))) (b_X10_ticks_b199 hK65 _ _ _ _ _ _ _)
  · exact X_sub (g_sub_s (g_sub_s (g_sub_s (g_sub_s (g_sub_s (g_sub_n (g_sub_s (g_sub_n (g_sub_n (g_sub_n (g_sub_n (g_sub_n g_sub_0)))))))))))) (b_X10_ticks_b199 hK65 _ _ _ _ _ _ _)
set_option maxRecDepth 100000 in
theorem b_X10_ticks_b116 {l : Launch} {G : gG} {K65 : gH → Nat → Int32 → Nat → Int32 → Int32 → Option (Int32 × gH)} (hK65 : ∀ (h : gH) (l0 : Nat) (l1 : Int32) (l2 : Nat) (l3 : Int32) (l4 : Int32), GX l G M_X10_ticks (g_phi G g_wI (m_R M_X10_ticks).cells (m_R M_X10_ticks).slots) 0 0 65 [some (.ref l0), some (.int l1), some (.ref l2), some (.int l3), some (.int l4), none, none, none, none, none, none, none] [] h (K65 h l0 l1 l2 l3 l4)) : ∀ (n : Nat) (h : gH) (l0 : Nat) (l1 : Int32) (l2 : Nat) (l3 : Int32) (l4 : Int32) (l5 : Nat) (l6 : Nat) (l7 : Int32), GX l G M_X10_ticks (g_phi G g_wI (m_R M_X10_ticks).cells (m_R M_X10_ticks).slots) 0 0 116 [some (.ref l0), some (.int l1), some (.ref l2), some (.int l3), some (.int l4), some (.ref l5), some (.ref l6), some (.int l7), none, none, none, none] [] h (f_X10_ticks_b116 G K65 n h l0 l1 l2 l3 l4 l5 l6 l7) := by
  intro n
  induction n with
  | zero => intros; exact X_none
  | succ n ih =>
    intro h l0 l1 l2 l3 l4 l5 l6 l7
    rw [f_X10_ticks_b116]
    refine X_iload rfl rfl rfl ?_
    refine X_aload rfl rfl rfl ?_
    refine X_getA rfl rfl (fun v120 => ?_)
    refine X_aln rfl rfl (fun v123 => ?_)
    refine X_bicmp_ge rfl rfl (fun _ => ?_) (fun _ => ?_)
    · refine X_aload rfl rfl rfl ?_
      refine X_getI rfl rfl (fun v129 => ?_)
      refine X_bif_ge rfl rfl (fun _ => ?_) (fun _ => ?_)
      · refine X_aload rfl rfl rfl ?_
        refine X_getA rfl rfl (fun v137 => ?_)
        refine X_iload rfl rfl rfl ?_
        refine X_qld9 (t := 6) rfl rfl (by simp) (fun v142 => ?_)
        refine X_nn (fun v142n e142 => ?_)
        subst e142
        refine X_getI rfl rfl (fun v143 => ?_)
        refine X_bif_le rfl rfl (fun _ => ?_) (fun _ => ?_)
        · refine X_goto rfl rfl ?_
          exact X_sub (g_sub_s (g_sub_s (g_sub_s (g_sub_s (g_sub_s (g_sub_s (g_sub_s (g_sub_s (g_sub_n (g_sub_n (g_sub_n (g_sub_n g_sub_0)))))))))))) (b_X10_ticks_b177 hK65 ih _ _ _ _ _ _ _ _ _)
        · refine X_aload rfl rfl rfl ?_
          refine X_getA rfl rfl (fun v154 => ?_)
          refine X_iload rfl rfl rfl ?_
          refine X_qld9 (t := 6) rfl rfl (by simp) (fun v159 => ?_)
          refine X_nn (fun v159n e159 => ?_)
          subst e159
          refine X_iconst (v := 1) rfl rfl (by decide) ?_
          refine X_put rfl rfl rfl rfl rfl (fun h161 => ?_)
          refine X_aload rfl rfl rfl ?_
          refine X_iload rfl rfl rfl ?_
          refine X_put rfl rfl rfl rfl rfl (fun h168 => ?_)
          refine X_aload rfl rfl rfl ?_
          refine X_iconst (v := 0) rfl rfl (by decide) ?_
          refine X_put rfl rfl rfl rfl rfl (fun h174 => ?_)
          exact X_sub (g_sub_s (g_sub_s (g_sub_s (g_sub_s (g_sub_s (g_sub_s (g_sub_s (g_sub_s (g_sub_n (g_sub_n (g_sub_n (g_sub_n g_sub_0)))))))))))) (b_X10_ticks_b177 hK65 ih _ _ _ _ _ _ _ _ _)
      · exact X_sub (g_sub_s (g_sub_s (g_sub_s (g_sub_s (g_sub_s (g_sub_s (g_sub_s (g_sub_n (g_sub_n (g_sub_n (g_sub_n (g_sub_n g_sub_0)))))))))))) (b_X10_ticks_b183 hK65 _ _ _ _ _ _ _ _)
    · exact X_sub (g_sub_s (g_sub_s (g_sub_s (g_sub_s (g_sub_s (g_sub_s (g_sub_s (g_sub_n (g_sub_n (g_sub_n (g_sub_n (g_sub_n g_sub_0)))))))))))) (b_X10_ticks_b183 hK65 _ _ _ _ _ _ _ _)
set_option maxRecDepth 100000 in
theorem b_X10_ticks_b65 {l : Launch} {G : gG} : ∀ (n : Nat) (h : gH) (l0 : Nat) (l1 : Int32) (l2 : Nat) (l3 : Int32) (l4 : Int32), GX l G M_X10_ticks (g_phi G g_wI (m_R M_X10_ticks).cells (m_R M_X10_ticks).slots) 0 0 65 [some (.ref l0), some (.int l1), some (.ref l2), some (.int l3), some (.int l4), none, none, none, none, none, none, none] [] h (f_X10_ticks_b65 G n h l0 l1 l2 l3 l4) := by
  intro n
  induction n with
  | zero => intros; exact X_none
  | succ n ih =>
    intro h l0 l1 l2 l3 l4
    rw [f_X10_ticks_b65]
    refine X_iload rfl rfl rfl ?_
    refine X_iload_n rfl rfl rfl ?_
    refine X_bicmp_ge rfl rfl (fun _ => ?_) (fun _ => ?_)
    · refine X_aload_n rfl rfl rfl ?_
      refine X_iload rfl rfl rfl ?_
      refine X_qld9 (t := 7) rfl rfl (by simp) (fun v74 => ?_)
      refine X_nn (fun v74n e74 => ?_)
      subst e74
      refine X_astore rfl rfl rfl rfl ?_
      refine X_aload_n rfl rfl rfl ?_
      refine X_getI rfl rfl (fun v78 => ?_)
      refine X_bif_lt rfl rfl (fun _ => ?_) (fun _ => ?_)
      · refine X_aload rfl rfl rfl ?_
        refine X_aload_n rfl rfl rfl ?_
        refine X_getI rfl rfl (fun v87 => ?_)
        refine X_bipush (v := 24) rfl rfl (by decide) ?_
        refine X_irem (v := g_rem v87 24) rfl rfl rfl (by decide) ?_
        refine X_callV_IR (M' := M_X9_isOpen) (nA := 1) (As := [.int (g_rem v87 24)]) (st := []) (b := v74n) (ci := 9) rfl rfl (by decide +kernel) rfl rfl rfl rfl rfl rfl rfl rfl (fun _ e => ct_X9_isOpen  e) (fun v93 => ?_)
        refine X_bif_ne rfl rfl (fun _ => ?_) (fun _ => ?_)
        · refine X_goto rfl rfl ?_
          exact X_sub (g_sub_s (g_sub_s (g_sub_s (g_sub_s (g_sub_s (g_sub_n (g_sub_n (g_sub_n (g_sub_n (g_sub_n (g_sub_n (g_sub_n g_sub_0)))))))))))) (b_X10_ticks_b287 ih _ _ _ _ _ _)
        · refine X_aload_n rfl rfl rfl ?_
          refine X_getA rfl rfl (fun v103 => ?_)
          refine X_aload_n rfl rfl rfl ?_
          refine X_getI rfl rfl (fun v107 => ?_)
          refine X_qld9 (t := 8) rfl rfl (by simp) (fun v110 => ?_)
          refine X_nn (fun v110n e110 => ?_)
          subst e110
          refine X_astore rfl rfl rfl rfl ?_
          refine X_iconst (v := 0) rfl rfl (by decide) ?_
          refine X_istore rfl rfl rfl rfl ?_
          exact X_sub (g_sub_s (g_sub_s (g_sub_s (g_sub_s (g_sub_s (g_sub_s (g_sub_s (g_sub_s (g_sub_n (g_sub_n (g_sub_n (g_sub_n g_sub_0)))))))))))) (b_X10_ticks_b116 ih g_N _ _ _ _ _ _ _ _ _)
      · exact X_sub (g_sub_s (g_sub_s (g_sub_s (g_sub_s (g_sub_s (g_sub_n (g_sub_n (g_sub_n (g_sub_n (g_sub_n (g_sub_n (g_sub_n g_sub_0)))))))))))) (b_X10_ticks_b287 ih _ _ _ _ _ _)
    · refine X_aload_n rfl rfl rfl ?_
      refine X_dup rfl rfl rfl ?_
      refine X_getI rfl rfl (fun v295 => ?_)
      refine X_iconst (v := 1) rfl rfl (by decide) ?_
      refine X_iadd rfl rfl ?_
      refine X_put rfl rfl rfl rfl rfl (fun h300 => ?_)
      refine X_iload_n rfl rfl rfl ?_
      exact X_iret rfl rfl rfl rfl rfl rfl rfl
set_option maxRecDepth 100000 in
theorem b_X10_ticks_b54 {l : Launch} {G : gG} (h : gH) (l0 : Nat) (l1 : Int32) : GX l G M_X10_ticks (g_phi G g_wI (m_R M_X10_ticks).cells (m_R M_X10_ticks).slots) 0 0 54 [some (.ref l0), some (.int l1), none, none, none, none, none, none, none, none, none, none] [] h (f_X10_ticks_b54 G h l0 l1) := by
  unfold f_X10_ticks_b54
  refine X_aload_n rfl rfl rfl ?_
  refine X_getA rfl rfl (fun v55 => ?_)
  refine X_astore_n rfl rfl rfl rfl ?_
  refine X_aload_n rfl rfl rfl ?_
  refine X_aln rfl rfl (fun v60 => ?_)
  refine X_istore_n rfl rfl rfl rfl ?_
  refine X_iconst (v := 0) rfl rfl (by decide) ?_
  refine X_istore rfl rfl rfl rfl ?_
  exact X_sub (g_sub_s (g_sub_s (g_sub_s (g_sub_s (g_sub_s (g_sub_n (g_sub_n (g_sub_n (g_sub_n (g_sub_n (g_sub_n (g_sub_n g_sub_0)))))))))))) (b_X10_ticks_b65 g_N _ _ _ _ _ _)
set_option maxRecDepth 100000 in
theorem ct_X10_ticks {l : Launch} {G : gG} {h : gH} {a0 : Nat} {r : Int32} {h1 : gH} (e : f_X10_ticks G h a0 = some (r, h1)) : Ct l G M_X10_ticks [.ref a0] h (some (.int r)) h1 := by
  refine Ct_of (L := [some (.ref a0), none, none, none, none, none, none, none, none, none, none, none]) ok_X10_ticks (by decide +kernel) rfl rfl rfl (ρ := g_wI) (F := f_X10_ticks G h a0) ?_ e rfl
  unfold f_X10_ticks
  refine X_iconst (v := 0) rfl rfl (by decide) ?_
  refine X_istore_n rfl rfl rfl rfl ?_
  refine X_aload_n rfl rfl rfl ?_
  refine X_getI rfl rfl (fun v3 => ?_)
  refine X_bif_ge rfl rfl (fun _ => ?_) (fun _ => ?_)
  · refine X_aload_n rfl rfl rfl ?_
    refine X_aload_n rfl rfl rfl ?_
    refine X_iconst (v := 0) rfl rfl (by decide) ?_
    refine X_callV_IR (M' := M_X10_next) (nA := 1) (As := [.int 0]) (st := [.ref a0]) (b := a0) (ci := 10) rfl rfl (by decide +kernel) rfl rfl rfl rfl rfl rfl rfl rfl (fun _ e => ct_X10_next  e) (fun v12 => ?_)
    refine X_put rfl rfl rfl rfl rfl (fun h15 => ?_)
    refine X_aload_n rfl rfl rfl ?_
    refine X_getI rfl rfl (fun v19 => ?_)
    refine X_bif_lt rfl rfl (fun _ => ?_) (fun _ => ?_)
    · refine X_aload_n rfl rfl rfl ?_
      refine X_getA rfl rfl (fun v26 => ?_)
      refine X_aload_n rfl rfl rfl ?_
      refine X_getI rfl rfl (fun v30 => ?_)
      refine X_qld9 (t := 8) rfl rfl (by simp) (fun v33 => ?_)
      refine X_nn (fun v33n e33 => ?_)
      subst e33
      refine X_iconst (v := 1) rfl rfl (by decide) ?_
      refine X_put rfl rfl rfl rfl rfl (fun h35 => ?_)
      refine X_aload_n rfl rfl rfl ?_
      refine X_getA rfl rfl (fun v39 => ?_)
      refine X_aload_n rfl rfl rfl ?_
      refine X_getI rfl rfl (fun v43 => ?_)
      refine X_qld9 (t := 8) rfl rfl (by simp) (fun v46 => ?_)
      refine X_nn (fun v46n e46 => ?_)
      subst e46
      refine X_aload_n rfl rfl rfl ?_
      refine X_getI rfl rfl (fun v48 => ?_)
      refine X_put rfl rfl rfl rfl rfl (fun h51 => ?_)
      exact X_sub (g_sub_s (g_sub_s (g_sub_n (g_sub_n (g_sub_n (g_sub_n (g_sub_n (g_sub_n (g_sub_n (g_sub_n (g_sub_n (g_sub_n g_sub_0)))))))))))) (b_X10_ticks_b54  _ _ _)
    · exact X_sub (g_sub_s (g_sub_s (g_sub_n (g_sub_n (g_sub_n (g_sub_n (g_sub_n (g_sub_n (g_sub_n (g_sub_n (g_sub_n (g_sub_n g_sub_0)))))))))))) (b_X10_ticks_b54  _ _ _)
  · exact X_sub (g_sub_s (g_sub_s (g_sub_n (g_sub_n (g_sub_n (g_sub_n (g_sub_n (g_sub_n (g_sub_n (g_sub_n (g_sub_n (g_sub_n g_sub_0)))))))))))) (b_X10_ticks_b54  _ _ _)
def f_X10_inState_b39 (G : gG) (h : gH) (K14 : Int32 → Int32 → Nat → Int32 → Int32 → Option (Int32)) (l1 : Int32) (l2 : Int32) (l3 : Nat) (l4 : Int32) (l5 : Int32) : Option (Int32) :=
  K14 l1 l2 l3 l4 (l5 + 1)
def f_X10_inState_b14 (G : gG) (h : gH) : Nat → Int32 → Int32 → Nat → Int32 → Int32 → Option (Int32)
  | 0, _, _, _, _, _ => none
  | n + 1, l1, l2, l3, l4, l5 =>
    (if l5 < l4 then
      (g_qld h l3 8 l5).bind fun v24 =>
      v24.bind fun v24n =>
      (g_gI h v24n 12 5).bind fun v29 =>
      (if v29 = l1 then
        f_X10_inState_b39 G h (f_X10_inState_b14 G h n) l1 (l2 + 1) l3 l4 l5
      else
        f_X10_inState_b39 G h (f_X10_inState_b14 G h n) l1 l2 l3 l4 l5)
    else
      some l2)
def f_X10_inState (G : gG) (h : gH) (a0 : Nat) (p1 : Int32) : Option (Int32) :=
  (g_gA h a0 10 1).bind fun v3 =>
  (g_aln h v3).bind fun v8 =>
  f_X10_inState_b14 G h g_N p1 0 v3 v8 0
set_option maxRecDepth 100000 in
theorem b_X10_inState_b39 {l : Launch} {G : gG} {h : gH} {K14 : Int32 → Int32 → Nat → Int32 → Int32 → Option (Int32)} (hK14 : ∀ (l1 : Int32) (l2 : Int32) (l3 : Nat) (l4 : Int32) (l5 : Int32), GX l G M_X10_inState (g_phi G (g_rI h) (m_R M_X10_inState).cells (m_R M_X10_inState).slots) 0 0 14 [none, some (.int l1), some (.int l2), some (.ref l3), some (.int l4), some (.int l5), none] [] h (K14 l1 l2 l3 l4 l5)) (l1 : Int32) (l2 : Int32) (l3 : Nat) (l4 : Int32) (l5 : Int32) : GX l G M_X10_inState (g_phi G (g_rI h) (m_R M_X10_inState).cells (m_R M_X10_inState).slots) 0 0 39 [none, some (.int l1), some (.int l2), some (.ref l3), some (.int l4), some (.int l5), none] [] h (f_X10_inState_b39 G h K14 l1 l2 l3 l4 l5) := by
  unfold f_X10_inState_b39
  refine X_iinc (v := l5 + 1) rfl rfl rfl (congrArg (fun z => l5 + z) (by decide : Int32.ofInt 1 = 1)) rfl ?_
  refine X_goto rfl rfl ?_
  exact X_sub (g_sub_n (g_sub_s (g_sub_s (g_sub_s (g_sub_s (g_sub_s (g_sub_n g_sub_0))))))) (hK14 _ _ _ _ _)
set_option maxRecDepth 100000 in
theorem b_X10_inState_b14 {l : Launch} {G : gG} {h : gH} : ∀ (n : Nat) (l1 : Int32) (l2 : Int32) (l3 : Nat) (l4 : Int32) (l5 : Int32), GX l G M_X10_inState (g_phi G (g_rI h) (m_R M_X10_inState).cells (m_R M_X10_inState).slots) 0 0 14 [none, some (.int l1), some (.int l2), some (.ref l3), some (.int l4), some (.int l5), none] [] h (f_X10_inState_b14 G h n l1 l2 l3 l4 l5) := by
  intro n
  induction n with
  | zero => intros; exact X_none
  | succ n ih =>
    intro l1 l2 l3 l4 l5
    rw [f_X10_inState_b14]
    refine X_iload rfl rfl rfl ?_
    refine X_iload rfl rfl rfl ?_
    refine X_bicmp_ge rfl rfl (fun _ => ?_) (fun _ => ?_)
    · refine X_aload_n rfl rfl rfl ?_
      refine X_iload rfl rfl rfl ?_
      refine X_qld9 (t := 8) rfl rfl (by simp) (fun v24 => ?_)
      refine X_nn (fun v24n e24 => ?_)
      subst e24
      refine X_astore rfl rfl rfl rfl ?_
      refine X_aload rfl rfl rfl ?_
      refine X_getI rfl rfl (fun v29 => ?_)
      refine X_iload_n rfl rfl rfl ?_
      refine X_bicmp_ne rfl rfl (fun _ => ?_) (fun _ => ?_)
      · refine X_iinc (v := l2 + 1) rfl rfl rfl (congrArg (fun z => l2 + z) (by decide : Int32.ofInt 1 = 1)) rfl ?_
        exact X_sub (g_sub_n (g_sub_s (g_sub_s (g_sub_s (g_sub_s (g_sub_s (g_sub_n g_sub_0))))))) (b_X10_inState_b39 ih _ _ _ _ _)
      · exact X_sub (g_sub_n (g_sub_s (g_sub_s (g_sub_s (g_sub_s (g_sub_s (g_sub_n g_sub_0))))))) (b_X10_inState_b39 ih _ _ _ _ _)
    · refine X_iload_n rfl rfl rfl ?_
      exact X_iret rfl rfl rfl rfl rfl rfl rfl
set_option maxRecDepth 100000 in
theorem ct_X10_inState {l : Launch} {G : gG} {h : gH} {a0 : Nat} {p1 : Int32} {r : Int32} (e : f_X10_inState G h a0 p1 = some r) : Ct l G M_X10_inState [.ref a0, .int p1] h (some (.int r)) h := by
  refine Ct_of (L := [some (.ref a0), some (.int p1), none, none, none, none, none]) ok_X10_inState (by decide +kernel) rfl rfl rfl (ρ := (g_rI h)) (F := f_X10_inState G h a0 p1) ?_ e rfl
  unfold f_X10_inState
  refine X_iconst (v := 0) rfl rfl (by decide) ?_
  refine X_istore_n rfl rfl rfl rfl ?_
  refine X_aload_n rfl rfl rfl ?_
  refine X_getA rfl rfl (fun v3 => ?_)
  refine X_astore_n rfl rfl rfl rfl ?_
  refine X_aload_n rfl rfl rfl ?_
  refine X_aln rfl rfl (fun v8 => ?_)
  refine X_istore rfl rfl rfl rfl ?_
  refine X_iconst (v := 0) rfl rfl (by decide) ?_
  refine X_istore rfl rfl rfl rfl ?_
  exact X_sub (g_sub_n (g_sub_s (g_sub_s (g_sub_s (g_sub_s (g_sub_s (g_sub_n g_sub_0))))))) (b_X10_inState_b14 g_N _ _ _ _ _)
def f_X12_empty_b33 (G : gG) (h : gH) (K13 : Int32 → Nat → Int32 → Int32 → Option (Int32)) (l1 : Int32) (l2 : Nat) (l3 : Int32) (l4 : Int32) : Option (Int32) :=
  K13 l1 l2 l3 (l4 + 1)
def f_X12_empty_b13 (G : gG) (h : gH) : Nat → Int32 → Nat → Int32 → Int32 → Option (Int32)
  | 0, _, _, _, _ => none
  | n + 1, l1, l2, l3, l4 =>
    (if l4 < l3 then
      (g_ald h l2 l4).bind fun v22 =>
      (if v22 < 0 then
        f_X12_empty_b33 G h (f_X12_empty_b13 G h n) (l1 + 1) l2 l3 l4
      else
        f_X12_empty_b33 G h (f_X12_empty_b13 G h n) l1 l2 l3 l4)
    else
      some l1)
def f_X12_empty (G : gG) (h : gH) (a0 : Nat) : Option (Int32) :=
  (g_gA h a0 12 3).bind fun v3 =>
  (g_aln h v3).bind fun v8 =>
  f_X12_empty_b13 G h g_N 0 v3 v8 0
set_option maxRecDepth 100000 in
theorem b_X12_empty_b33 {l : Launch} {G : gG} {h : gH} {K13 : Int32 → Nat → Int32 → Int32 → Option (Int32)} (hK13 : ∀ (l1 : Int32) (l2 : Nat) (l3 : Int32) (l4 : Int32), GX l G M_X12_empty (g_phi G (g_rI h) (m_R M_X12_empty).cells (m_R M_X12_empty).slots) 0 0 13 [none, some (.int l1), some (.ref l2), some (.int l3), some (.int l4), none] [] h (K13 l1 l2 l3 l4)) (l1 : Int32) (l2 : Nat) (l3 : Int32) (l4 : Int32) : GX l G M_X12_empty (g_phi G (g_rI h) (m_R M_X12_empty).cells (m_R M_X12_empty).slots) 0 0 33 [none, some (.int l1), some (.ref l2), some (.int l3), some (.int l4), none] [] h (f_X12_empty_b33 G h K13 l1 l2 l3 l4) := by
  unfold f_X12_empty_b33
  refine X_iinc (v := l4 + 1) rfl rfl rfl (congrArg (fun z => l4 + z) (by decide : Int32.ofInt 1 = 1)) rfl ?_
  refine X_goto rfl rfl ?_
  exact X_sub (g_sub_n (g_sub_s (g_sub_s (g_sub_s (g_sub_s (g_sub_n g_sub_0)))))) (hK13 _ _ _ _)
set_option maxRecDepth 100000 in
theorem b_X12_empty_b13 {l : Launch} {G : gG} {h : gH} : ∀ (n : Nat) (l1 : Int32) (l2 : Nat) (l3 : Int32) (l4 : Int32), GX l G M_X12_empty (g_phi G (g_rI h) (m_R M_X12_empty).cells (m_R M_X12_empty).slots) 0 0 13 [none, some (.int l1), some (.ref l2), some (.int l3), some (.int l4), none] [] h (f_X12_empty_b13 G h n l1 l2 l3 l4) := by
  intro n
  induction n with
  | zero => intros; exact X_none
  | succ n ih =>
    intro l1 l2 l3 l4
    rw [f_X12_empty_b13]
    refine X_iload rfl rfl rfl ?_
    refine X_iload_n rfl rfl rfl ?_
    refine X_bicmp_ge rfl rfl (fun _ => ?_) (fun _ => ?_)
    · refine X_aload_n rfl rfl rfl ?_
      refine X_iload rfl rfl rfl ?_
      refine X_ald rfl rfl (fun v22 => ?_)
      refine X_istore rfl rfl rfl rfl ?_
      refine X_iload rfl rfl rfl ?_
      refine X_bif_ge rfl rfl (fun _ => ?_) (fun _ => ?_)
      · refine X_iinc (v := l1 + 1) rfl rfl rfl (congrArg (fun z => l1 + z) (by decide : Int32.ofInt 1 = 1)) rfl ?_
        exact X_sub (g_sub_n (g_sub_s (g_sub_s (g_sub_s (g_sub_s (g_sub_n g_sub_0)))))) (b_X12_empty_b33 ih _ _ _ _)
      · exact X_sub (g_sub_n (g_sub_s (g_sub_s (g_sub_s (g_sub_s (g_sub_n g_sub_0)))))) (b_X12_empty_b33 ih _ _ _ _)
    · refine X_iload_n rfl rfl rfl ?_
      exact X_iret rfl rfl rfl rfl rfl rfl rfl
set_option maxRecDepth 100000 in
theorem ct_X12_empty {l : Launch} {G : gG} {h : gH} {a0 : Nat} {r : Int32} (e : f_X12_empty G h a0 = some r) : Ct l G M_X12_empty [.ref a0] h (some (.int r)) h := by
  refine Ct_of (L := [some (.ref a0), none, none, none, none, none]) ok_X12_empty (by decide +kernel) rfl rfl rfl (ρ := (g_rI h)) (F := f_X12_empty G h a0) ?_ e rfl
  unfold f_X12_empty
  refine X_iconst (v := 0) rfl rfl (by decide) ?_
  refine X_istore_n rfl rfl rfl rfl ?_
  refine X_aload_n rfl rfl rfl ?_
  refine X_getA rfl rfl (fun v3 => ?_)
  refine X_astore_n rfl rfl rfl rfl ?_
  refine X_aload_n rfl rfl rfl ?_
  refine X_aln rfl rfl (fun v8 => ?_)
  refine X_istore_n rfl rfl rfl rfl ?_
  refine X_iconst (v := 0) rfl rfl (by decide) ?_
  refine X_istore rfl rfl rfl rfl ?_
  exact X_sub (g_sub_n (g_sub_s (g_sub_s (g_sub_s (g_sub_s (g_sub_n g_sub_0)))))) (b_X12_empty_b13 g_N _ _ _ _)
def f_X12_wrong_b39 (G : gG) (h : gH) (K4 : Nat → Int32 → Int32 → Option (Int32)) (l0 : Nat) (l1 : Int32) (l2 : Int32) : Option (Int32) :=
  K4 l0 l1 (l2 + 1)
def f_X12_wrong_b4 (G : gG) (h : gH) : Nat → Nat → Int32 → Int32 → Option (Int32)
  | 0, _, _, _ => none
  | n + 1, l0, l1, l2 =>
    (g_gA h l0 12 3).bind fun v6 =>
    (g_aln h v6).bind fun v9 =>
    (if l2 < v9 then
      (g_gA h l0 12 3).bind fun v14 =>
      (g_ald h v14 l2).bind fun v18 =>
      (if 0 ≤ v18 then
        (g_gA h l0 12 3).bind fun v23 =>
        (g_ald h v23 l2).bind fun v27 =>
        bif g_is h l0 12 then
        (f_X12_letter G h l0 l2).bind fun v30 =>
        (if v27 = v30 then
          f_X12_wrong_b39 G h (f_X12_wrong_b4 G h n) l0 l1 l2
        else
          f_X12_wrong_b39 G h (f_X12_wrong_b4 G h n) l0 (l1 + 1) l2)
        else none
      else
        f_X12_wrong_b39 G h (f_X12_wrong_b4 G h n) l0 l1 l2)
    else
      some l1)
def f_X12_wrong (G : gG) (h : gH) (a0 : Nat) : Option (Int32) :=
  f_X12_wrong_b4 G h g_N a0 0 0
set_option maxRecDepth 100000 in
theorem b_X12_wrong_b39 {l : Launch} {G : gG} {h : gH} {K4 : Nat → Int32 → Int32 → Option (Int32)} (hK4 : ∀ (l0 : Nat) (l1 : Int32) (l2 : Int32), GX l G M_X12_wrong (g_phi G (g_rI h) (m_R M_X12_wrong).cells (m_R M_X12_wrong).slots) 0 0 4 [some (.ref l0), some (.int l1), some (.int l2)] [] h (K4 l0 l1 l2)) (l0 : Nat) (l1 : Int32) (l2 : Int32) : GX l G M_X12_wrong (g_phi G (g_rI h) (m_R M_X12_wrong).cells (m_R M_X12_wrong).slots) 0 0 39 [some (.ref l0), some (.int l1), some (.int l2)] [] h (f_X12_wrong_b39 G h K4 l0 l1 l2) := by
  unfold f_X12_wrong_b39
  refine X_iinc (v := l2 + 1) rfl rfl rfl (congrArg (fun z => l2 + z) (by decide : Int32.ofInt 1 = 1)) rfl ?_
  refine X_goto rfl rfl ?_
  exact X_sub (g_sub_s (g_sub_s (g_sub_s g_sub_0))) (hK4 _ _ _)
set_option maxRecDepth 100000 in
theorem b_X12_wrong_b4 {l : Launch} {G : gG} {h : gH} : ∀ (n : Nat) (l0 : Nat) (l1 : Int32) (l2 : Int32), GX l G M_X12_wrong (g_phi G (g_rI h) (m_R M_X12_wrong).cells (m_R M_X12_wrong).slots) 0 0 4 [some (.ref l0), some (.int l1), some (.int l2)] [] h (f_X12_wrong_b4 G h n l0 l1 l2) := by
  intro n
  induction n with
  | zero => intros; exact X_none
  | succ n ih =>
    intro l0 l1 l2
    rw [f_X12_wrong_b4]
    refine X_iload_n rfl rfl rfl ?_
    refine X_aload_n rfl rfl rfl ?_
    refine X_getA rfl rfl (fun v6 => ?_)
    refine X_aln rfl rfl (fun v9 => ?_)
    refine X_bicmp_ge rfl rfl (fun _ => ?_) (fun _ => ?_)
    · refine X_aload_n rfl rfl rfl ?_
      refine X_getA rfl rfl (fun v14 => ?_)
      refine X_iload_n rfl rfl rfl ?_
      refine X_ald rfl rfl (fun v18 => ?_)
      refine X_bif_lt rfl rfl (fun _ => ?_) (fun _ => ?_)
      · refine X_aload_n rfl rfl rfl ?_
        refine X_getA rfl rfl (fun v23 => ?_)
        refine X_iload_n rfl rfl rfl ?_
        refine X_ald rfl rfl (fun v27 => ?_)
        refine X_aload_n rfl rfl rfl ?_
        refine X_iload_n rfl rfl rfl ?_
        refine X_callV_IR (M' := M_X12_letter) (nA := 1) (As := [.int l2]) (st := [.int v27]) (b := l0) (ci := 12) rfl rfl (by decide +kernel) rfl rfl rfl rfl rfl rfl rfl rfl (fun _ e => ct_X12_letter  e) (fun v30 => ?_)
        refine X_bicmp_eq rfl rfl (fun _ => ?_) (fun _ => ?_)
        · exact X_sub (g_sub_s (g_sub_s (g_sub_s g_sub_0))) (b_X12_wrong_b39 ih _ _ _)
        · refine X_iinc (v := l1 + 1) rfl rfl rfl (congrArg (fun z => l1 + z) (by decide : Int32.ofInt 1 = 1)) rfl ?_
          exact X_sub (g_sub_s (g_sub_s (g_sub_s g_sub_0))) (b_X12_wrong_b39 ih _ _ _)
      · exact X_sub (g_sub_s (g_sub_s (g_sub_s g_sub_0))) (b_X12_wrong_b39 ih _ _ _)
    · refine X_iload_n rfl rfl rfl ?_
      exact X_iret rfl rfl rfl rfl rfl rfl rfl
set_option maxRecDepth 100000 in
theorem ct_X12_wrong {l : Launch} {G : gG} {h : gH} {a0 : Nat} {r : Int32} (e : f_X12_wrong G h a0 = some r) : Ct l G M_X12_wrong [.ref a0] h (some (.int r)) h := by
  refine Ct_of (L := [some (.ref a0), none, none]) ok_X12_wrong (by decide +kernel) rfl rfl rfl (ρ := (g_rI h)) (F := f_X12_wrong G h a0) ?_ e rfl
  unfold f_X12_wrong
  refine X_iconst (v := 0) rfl rfl (by decide) ?_
  refine X_istore_n rfl rfl rfl rfl ?_
  refine X_iconst (v := 0) rfl rfl (by decide) ?_
  refine X_istore_n rfl rfl rfl rfl ?_
  exact X_sub (g_sub_s (g_sub_s (g_sub_s g_sub_0))) (b_X12_wrong_b4 g_N _ _ _)
def f_X12_agrees (G : gG) (h : gH) (a0 : Nat) : Option (Int32) :=
  (g_gI h a0 12 5).bind fun v1 =>
  (if v1 = 2 then
    bif g_is h a0 12 then
    (f_X12_empty G h a0).bind fun v9 =>
    bif g_is h a0 12 then
    (f_X12_wrong G h a0).bind fun v13 =>
    (if (v9 + v13) = 0 then
      some 1
    else
      some 0)
    else none
    else none
  else
    some 0)
set_option maxRecDepth 100000 in
theorem ct_X12_agrees {l : Launch} {G : gG} {h : gH} {a0 : Nat} {r : Int32} (e : f_X12_agrees G h a0 = some r) : Ct l G M_X12_agrees [.ref a0] h (some (.int r)) h := by
  refine Ct_of (L := [some (.ref a0)]) ok_X12_agrees (by decide +kernel) rfl rfl rfl (ρ := (g_rI h)) (F := f_X12_agrees G h a0) ?_ e rfl
  unfold f_X12_agrees
  refine X_aload_n rfl rfl rfl ?_
  refine X_getI rfl rfl (fun v1 => ?_)
  refine X_iconst (v := 2) rfl rfl (by decide) ?_
  refine X_bicmp_ne rfl rfl (fun _ => ?_) (fun _ => ?_)
  · refine X_aload_n rfl rfl rfl ?_
    refine X_callV_IR (M' := M_X12_empty) (nA := 0) (As := []) (st := []) (b := a0) (ci := 12) rfl rfl (by decide +kernel) rfl rfl rfl rfl rfl rfl rfl rfl (fun _ e => ct_X12_empty  e) (fun v9 => ?_)
    refine X_aload_n rfl rfl rfl ?_
    refine X_callV_IR (M' := M_X12_wrong) (nA := 0) (As := []) (st := [.int v9]) (b := a0) (ci := 12) rfl rfl (by decide +kernel) rfl rfl rfl rfl rfl rfl rfl rfl (fun _ e => ct_X12_wrong  e) (fun v13 => ?_)
    refine X_iadd rfl rfl ?_
    refine X_bif_ne rfl rfl (fun _ => ?_) (fun _ => ?_)
    · refine X_iconst (v := 1) rfl rfl (by decide) ?_
      refine X_goto rfl rfl ?_
      exact X_iret rfl rfl rfl rfl rfl rfl rfl
    · refine X_iconst (v := 0) rfl rfl (by decide) ?_
      exact X_iret rfl rfl rfl rfl rfl rfl rfl
  · refine X_iconst (v := 0) rfl rfl (by decide) ?_
    exact X_iret rfl rfl rfl rfl rfl rfl rfl
def f_X10_agreeing_b36 (G : gG) (h : gH) (K13 : Int32 → Nat → Int32 → Int32 → Option (Int32)) (l1 : Int32) (l2 : Nat) (l3 : Int32) (l4 : Int32) : Option (Int32) :=
  K13 l1 l2 l3 (l4 + 1)
def f_X10_agreeing_b13 (G : gG) (h : gH) : Nat → Int32 → Nat → Int32 → Int32 → Option (Int32)
  | 0, _, _, _, _ => none
  | n + 1, l1, l2, l3, l4 =>
    (if l4 < l3 then
      (g_qld h l2 8 l4).bind fun v22 =>
      v22.bind fun v22n =>
      bif g_is h v22n 12 then
      (f_X12_agrees G h v22n).bind fun v27 =>
      (if v27 = 0 then
        f_X10_agreeing_b36 G h (f_X10_agreeing_b13 G h n) l1 l2 l3 l4
      else
        f_X10_agreeing_b36 G h (f_X10_agreeing_b13 G h n) (l1 + 1) l2 l3 l4)
      else none
    else
      some l1)
def f_X10_agreeing (G : gG) (h : gH) (a0 : Nat) : Option (Int32) :=
  (g_gA h a0 10 1).bind fun v3 =>
  (g_aln h v3).bind fun v8 =>
  f_X10_agreeing_b13 G h g_N 0 v3 v8 0
set_option maxRecDepth 100000 in
theorem b_X10_agreeing_b36 {l : Launch} {G : gG} {h : gH} {K13 : Int32 → Nat → Int32 → Int32 → Option (Int32)} (hK13 : ∀ (l1 : Int32) (l2 : Nat) (l3 : Int32) (l4 : Int32), GX l G M_X10_agreeing (g_phi G (g_rI h) (m_R M_X10_agreeing).cells (m_R M_X10_agreeing).slots) 0 0 13 [none, some (.int l1), some (.ref l2), some (.int l3), some (.int l4), none] [] h (K13 l1 l2 l3 l4)) (l1 : Int32) (l2 : Nat) (l3 : Int32) (l4 : Int32) : GX l G M_X10_agreeing (g_phi G (g_rI h) (m_R M_X10_agreeing).cells (m_R M_X10_agreeing).slots) 0 0 36 [none, some (.int l1), some (.ref l2), some (.int l3), some (.int l4), none] [] h (f_X10_agreeing_b36 G h K13 l1 l2 l3 l4) := by
  unfold f_X10_agreeing_b36
  refine X_iinc (v := l4 + 1) rfl rfl rfl (congrArg (fun z => l4 + z) (by decide : Int32.ofInt 1 = 1)) rfl ?_
  refine X_goto rfl rfl ?_
  exact X_sub (g_sub_n (g_sub_s (g_sub_s (g_sub_s (g_sub_s (g_sub_n g_sub_0)))))) (hK13 _ _ _ _)
set_option maxRecDepth 100000 in
theorem b_X10_agreeing_b13 {l : Launch} {G : gG} {h : gH} : ∀ (n : Nat) (l1 : Int32) (l2 : Nat) (l3 : Int32) (l4 : Int32), GX l G M_X10_agreeing (g_phi G (g_rI h) (m_R M_X10_agreeing).cells (m_R M_X10_agreeing).slots) 0 0 13 [none, some (.int l1), some (.ref l2), some (.int l3), some (.int l4), none] [] h (f_X10_agreeing_b13 G h n l1 l2 l3 l4) := by
  intro n
  induction n with
  | zero => intros; exact X_none
  | succ n ih =>
    intro l1 l2 l3 l4
    rw [f_X10_agreeing_b13]
    refine X_iload rfl rfl rfl ?_
    refine X_iload_n rfl rfl rfl ?_
    refine X_bicmp_ge rfl rfl (fun _ => ?_) (fun _ => ?_)
    · refine X_aload_n rfl rfl rfl ?_
      refine X_iload rfl rfl rfl ?_
      refine X_qld9 (t := 8) rfl rfl (by simp) (fun v22 => ?_)
      refine X_nn (fun v22n e22 => ?_)
      subst e22
      refine X_astore rfl rfl rfl rfl ?_
      refine X_aload rfl rfl rfl ?_
      refine X_callV_IR (M' := M_X12_agrees) (nA := 0) (As := []) (st := []) (b := v22n) (ci := 12) rfl rfl (by decide +kernel) rfl rfl rfl rfl rfl rfl rfl rfl (fun _ e => ct_X12_agrees  e) (fun v27 => ?_)
      refine X_bif_eq rfl rfl (fun _ => ?_) (fun _ => ?_)
      · exact X_sub (g_sub_n (g_sub_s (g_sub_s (g_sub_s (g_sub_s (g_sub_n g_sub_0)))))) (b_X10_agreeing_b36 ih _ _ _ _)
      · refine X_iinc (v := l1 + 1) rfl rfl rfl (congrArg (fun z => l1 + z) (by decide : Int32.ofInt 1 = 1)) rfl ?_
        exact X_sub (g_sub_n (g_sub_s (g_sub_s (g_sub_s (g_sub_s (g_sub_n g_sub_0)))))) (b_X10_agreeing_b36 ih _ _ _ _)
    · refine X_iload_n rfl rfl rfl ?_
      exact X_iret rfl rfl rfl rfl rfl rfl rfl
set_option maxRecDepth 100000 in
theorem ct_X10_agreeing {l : Launch} {G : gG} {h : gH} {a0 : Nat} {r : Int32} (e : f_X10_agreeing G h a0 = some r) : Ct l G M_X10_agreeing [.ref a0] h (some (.int r)) h := by
  refine Ct_of (L := [some (.ref a0), none, none, none, none, none]) ok_X10_agreeing (by decide +kernel) rfl rfl rfl (ρ := (g_rI h)) (F := f_X10_agreeing G h a0) ?_ e rfl
  unfold f_X10_agreeing
  refine X_iconst (v := 0) rfl rfl (by decide) ?_
  refine X_istore_n rfl rfl rfl rfl ?_
  refine X_aload_n rfl rfl rfl ?_
  refine X_getA rfl rfl (fun v3 => ?_)
  refine X_astore_n rfl rfl rfl rfl ?_
  refine X_aload_n rfl rfl rfl ?_
  refine X_aln rfl rfl (fun v8 => ?_)
  refine X_istore_n rfl rfl rfl rfl ?_
  refine X_iconst (v := 0) rfl rfl (by decide) ?_
  refine X_istore rfl rfl rfl rfl ?_
  exact X_sub (g_sub_n (g_sub_s (g_sub_s (g_sub_s (g_sub_s (g_sub_n g_sub_0)))))) (b_X10_agreeing_b13 g_N _ _ _ _)
def f_X10_cancels_b60 (G : gG) : Nat → gH → Nat → Int32 → Int32 → Option (Int32 × gH)
  | 0, _, _, _, _ => none
  | n + 1, h, l3, l4, l5 =>
    (if l5 < l4 then
      (g_qld h l3 7 l5).bind fun v70 =>
      v70.bind fun v70n =>
      (g_put h v70n 9 3 (.int (-1))).bind fun h76 =>
      (g_put h76 v70n 9 4 (.int (-1))).bind fun h82 =>
      f_X10_cancels_b60 G n h82 l3 l4 (l5 + 1)
    else
      some (1, h))
def f_X10_cancels_b13 (G : gG) (h : gH) (l0 : Nat) (l1 : Int32) (s0 : Int32) : Option (Int32 × gH) :=
  (g_gA h l0 10 1).bind fun v15 =>
  (g_qld h v15 8 l1).bind fun v19 =>
  v19.bind fun v19n =>
  (g_put h v19n 12 5 (.int 3)).bind fun h21 =>
  (g_gA h21 l0 10 1).bind fun v25 =>
  (g_qld h21 v25 8 l1).bind fun v29 =>
  v29.bind fun v29n =>
  (g_gI h21 l0 10 6).bind fun v31 =>
  (g_put h21 v29n 12 7 (.int v31)).bind fun h34 =>
  (if s0 = 0 then
    some (0, h34)
  else
    (g_put h34 l0 10 7 (.int (-1))).bind fun h45 =>
    (g_gA h45 l0 10 0).bind fun v49 =>
    (g_aln h45 v49).bind fun v54 =>
    f_X10_cancels_b60 G g_N h45 v49 v54 0)
def f_X10_cancels (G : gG) (h : gH) (a0 : Nat) (p1 : Int32) : Option (Int32 × gH) :=
  (g_gI h a0 10 7).bind fun v1 =>
  (if v1 = p1 then
    f_X10_cancels_b13 G h a0 p1 1
  else
    f_X10_cancels_b13 G h a0 p1 0)
set_option maxRecDepth 100000 in
theorem b_X10_cancels_b60 {l : Launch} {G : gG} : ∀ (n : Nat) (h : gH) (l3 : Nat) (l4 : Int32) (l5 : Int32), GX l G M_X10_cancels (g_phi G g_wI (m_R M_X10_cancels).cells (m_R M_X10_cancels).slots) 0 0 60 [none, none, none, some (.ref l3), some (.int l4), some (.int l5), none] [] h (f_X10_cancels_b60 G n h l3 l4 l5) := by
  intro n
  induction n with
  | zero => intros; exact X_none
  | succ n ih =>
    intro h l3 l4 l5
    rw [f_X10_cancels_b60]
    refine X_iload rfl rfl rfl ?_
    refine X_iload rfl rfl rfl ?_
    refine X_bicmp_ge rfl rfl (fun _ => ?_) (fun _ => ?_)
    · refine X_aload_n rfl rfl rfl ?_
      refine X_iload rfl rfl rfl ?_
      refine X_qld9 (t := 7) rfl rfl (by simp) (fun v70 => ?_)
      refine X_nn (fun v70n e70 => ?_)
      subst e70
      refine X_astore rfl rfl rfl rfl ?_
      refine X_aload rfl rfl rfl ?_
      refine X_iconst (v := -1) rfl rfl (by decide) ?_
      refine X_put rfl rfl rfl rfl rfl (fun h76 => ?_)
      refine X_aload rfl rfl rfl ?_
      refine X_iconst (v := -1) rfl rfl (by decide) ?_
      refine X_put rfl rfl rfl rfl rfl (fun h82 => ?_)
      refine X_iinc (v := l5 + 1) rfl rfl rfl (congrArg (fun z => l5 + z) (by decide : Int32.ofInt 1 = 1)) rfl ?_
      refine X_goto rfl rfl ?_
      exact X_sub (g_sub_n (g_sub_n (g_sub_n (g_sub_s (g_sub_s (g_sub_s (g_sub_n g_sub_0))))))) (ih _ _ _ _)
    · refine X_iconst (v := 1) rfl rfl (by decide) ?_
      exact X_iret rfl rfl rfl rfl rfl rfl rfl
set_option maxRecDepth 100000 in
theorem b_X10_cancels_b13 {l : Launch} {G : gG} (h : gH) (l0 : Nat) (l1 : Int32) (s0 : Int32) : GX l G M_X10_cancels (g_phi G g_wI (m_R M_X10_cancels).cells (m_R M_X10_cancels).slots) 0 0 13 [some (.ref l0), some (.int l1), none, none, none, none, none] [.int s0] h (f_X10_cancels_b13 G h l0 l1 s0) := by
  unfold f_X10_cancels_b13
  refine X_istore_n rfl rfl rfl rfl ?_
  refine X_aload_n rfl rfl rfl ?_
  refine X_getA rfl rfl (fun v15 => ?_)
  refine X_iload_n rfl rfl rfl ?_
  refine X_qld9 (t := 8) rfl rfl (by simp) (fun v19 => ?_)
  refine X_nn (fun v19n e19 => ?_)
  subst e19
  refine X_iconst (v := 3) rfl rfl (by decide) ?_
  refine X_put rfl rfl rfl rfl rfl (fun h21 => ?_)
  refine X_aload_n rfl rfl rfl ?_
  refine X_getA rfl rfl (fun v25 => ?_)
  refine X_iload_n rfl rfl rfl ?_
  refine X_qld9 (t := 8) rfl rfl (by simp) (fun v29 => ?_)
  refine X_nn (fun v29n e29 => ?_)
  subst e29
  refine X_aload_n rfl rfl rfl ?_
  refine X_getI rfl rfl (fun v31 => ?_)
  refine X_put rfl rfl rfl rfl rfl (fun h34 => ?_)
  refine X_iload_n rfl rfl rfl ?_
  refine X_bif_ne rfl rfl (fun _ => ?_) (fun _ => ?_)
  · refine X_iconst (v := 0) rfl rfl (by decide) ?_
    exact X_iret rfl rfl rfl rfl rfl rfl rfl
  · refine X_aload_n rfl rfl rfl ?_
    refine X_iconst (v := -1) rfl rfl (by decide) ?_
    refine X_put rfl rfl rfl rfl rfl (fun h45 => ?_)
    refine X_aload_n rfl rfl rfl ?_
    refine X_getA rfl rfl (fun v49 => ?_)
    refine X_astore_n rfl rfl rfl rfl ?_
    refine X_aload_n rfl rfl rfl ?_
    refine X_aln rfl rfl (fun v54 => ?_)
    refine X_istore rfl rfl rfl rfl ?_
    refine X_iconst (v := 0) rfl rfl (by decide) ?_
    refine X_istore rfl rfl rfl rfl ?_
    exact X_sub (g_sub_n (g_sub_n (g_sub_n (g_sub_s (g_sub_s (g_sub_s (g_sub_n g_sub_0))))))) (b_X10_cancels_b60 g_N _ _ _ _)
set_option maxRecDepth 100000 in
theorem ct_X10_cancels {l : Launch} {G : gG} {h : gH} {a0 : Nat} {p1 : Int32} {r : Int32} {h1 : gH} (e : f_X10_cancels G h a0 p1 = some (r, h1)) : Ct l G M_X10_cancels [.ref a0, .int p1] h (some (.int r)) h1 := by
  refine Ct_of (L := [some (.ref a0), some (.int p1), none, none, none, none, none]) ok_X10_cancels (by decide +kernel) rfl rfl rfl (ρ := g_wI) (F := f_X10_cancels G h a0 p1) ?_ e rfl
  unfold f_X10_cancels
  refine X_aload_n rfl rfl rfl ?_
  refine X_getI rfl rfl (fun v1 => ?_)
  refine X_iload_n rfl rfl rfl ?_
  refine X_bicmp_ne rfl rfl (fun _ => ?_) (fun _ => ?_)
  · refine X_iconst (v := 1) rfl rfl (by decide) ?_
    refine X_goto rfl rfl ?_
    exact X_sub (g_sub_s (g_sub_s (g_sub_n (g_sub_n (g_sub_n (g_sub_n (g_sub_n g_sub_0))))))) (b_X10_cancels_b13  _ _ _ _)
  · refine X_iconst (v := 0) rfl rfl (by decide) ?_
    exact X_sub (g_sub_s (g_sub_s (g_sub_n (g_sub_n (g_sub_n (g_sub_n (g_sub_n g_sub_0))))))) (b_X10_cancels_b13  _ _ _ _)
def f_X10_why (G : gG) (h : gH) (a0 : Nat) (p1 : Int32) (p2 : Int32) : Option (Int32) :=
  (g_gA h a0 10 1).bind fun v1 =>
  (g_qld h v1 8 p1).bind fun v5 =>
  v5.bind fun v5n =>
  (g_gA h v5n 12 3).bind fun v8 =>
  (g_ald h v8 p2).bind fun v12 =>
  (if 0 ≤ v12 then
    (g_gA h v5n 12 3).bind fun v17 =>
    (g_ald h v17 p2).bind fun v21 =>
    bif g_is h v5n 12 then
    (f_X12_letter G h v5n p2).bind fun v24 =>
    (if v21 = v24 then
      some 0
    else
      some 3)
    else none
  else
    (g_gA h v5n 12 4).bind fun v37 =>
    (g_gI h a0 10 4).bind fun v42 =>
    if v42 = 0 then none else
    (g_qld h v37 6 (p2 / v42)).bind fun v46 =>
    v46.bind fun v46n =>
    (g_gI h v46n 8 0).bind fun v47 =>
    (if 1 < v47 then
      some 2
    else
      some 1))
set_option maxRecDepth 100000 in
theorem ct_X10_why {l : Launch} {G : gG} {h : gH} {a0 : Nat} {p1 : Int32} {p2 : Int32} {r : Int32} (e : f_X10_why G h a0 p1 p2 = some r) : Ct l G M_X10_why [.ref a0, .int p1, .int p2] h (some (.int r)) h := by
  refine Ct_of (L := [some (.ref a0), some (.int p1), some (.int p2), none]) ok_X10_why (by decide +kernel) rfl rfl rfl (ρ := (g_rI h)) (F := f_X10_why G h a0 p1 p2) ?_ e rfl
  unfold f_X10_why
  refine X_aload_n rfl rfl rfl ?_
  refine X_getA rfl rfl (fun v1 => ?_)
  refine X_iload_n rfl rfl rfl ?_
  refine X_qld9 (t := 8) rfl rfl (by simp) (fun v5 => ?_)
  refine X_nn (fun v5n e5 => ?_)
  subst e5
  refine X_astore_n rfl rfl rfl rfl ?_
  refine X_aload_n rfl rfl rfl ?_
  refine X_getA rfl rfl (fun v8 => ?_)
  refine X_iload_n rfl rfl rfl ?_
  refine X_ald rfl rfl (fun v12 => ?_)
  refine X_bif_lt rfl rfl (fun _ => ?_) (fun _ => ?_)
  · refine X_aload_n rfl rfl rfl ?_
    refine X_getA rfl rfl (fun v17 => ?_)
    refine X_iload_n rfl rfl rfl ?_
    refine X_ald rfl rfl (fun v21 => ?_)
    refine X_aload_n rfl rfl rfl ?_
    refine X_iload_n rfl rfl rfl ?_
    refine X_callV_IR (M' := M_X12_letter) (nA := 1) (As := [.int p2]) (st := [.int v21]) (b := v5n) (ci := 12) rfl rfl (by decide +kernel) rfl rfl rfl rfl rfl rfl rfl rfl (fun _ e => ct_X12_letter  e) (fun v24 => ?_)
    refine X_bicmp_ne rfl rfl (fun _ => ?_) (fun _ => ?_)
    · refine X_iconst (v := 0) rfl rfl (by decide) ?_
      refine X_goto rfl rfl ?_
      exact X_iret rfl rfl rfl rfl rfl rfl rfl
    · refine X_iconst (v := 3) rfl rfl (by decide) ?_
      exact X_iret rfl rfl rfl rfl rfl rfl rfl
  · refine X_aload_n rfl rfl rfl ?_
    refine X_getA rfl rfl (fun v37 => ?_)
    refine X_iload_n rfl rfl rfl ?_
    refine X_aload_n rfl rfl rfl ?_
    refine X_getI rfl rfl (fun v42 => ?_)
    refine X_if (fun _ => X_none) (fun hz => ?_)
    refine X_idiv (v := p2 / v42) rfl rfl rfl hz ?_
    refine X_qld9 (t := 6) rfl rfl (by simp) (fun v46 => ?_)
    refine X_nn (fun v46n e46 => ?_)
    subst e46
    refine X_getI rfl rfl (fun v47 => ?_)
    refine X_iconst (v := 1) rfl rfl (by decide) ?_
    refine X_bicmp_le rfl rfl (fun _ => ?_) (fun _ => ?_)
    · refine X_iconst (v := 2) rfl rfl (by decide) ?_
      refine X_goto rfl rfl ?_
      exact X_iret rfl rfl rfl rfl rfl rfl rfl
    · refine X_iconst (v := 1) rfl rfl (by decide) ?_
      exact X_iret rfl rfl rfl rfl rfl rfl rfl
def f_X10_told (G : gG) (h : gH) (a0 : Nat) (p1 : Int32) : Option (Int32) :=
  (if p1 = 0 then
    (g_gI h a0 10 6).bind fun v5 =>
    some v5
  else
    (if p1 = 1 then
      (g_gA h a0 10 1).bind fun v17 =>
      (g_aln h v17).bind fun v20 =>
      some v20
    else
      (if p1 = 2 then
        (g_gI h a0 10 7).bind fun v30 =>
        some v30
      else
        (if p1 = 3 then
          bif g_is h a0 10 then
          (f_X10_inState G h a0 0).bind fun v43 =>
          some v43
          else none
        else
          (if p1 = 4 then
            bif g_is h a0 10 then
            (f_X10_inState G h a0 2).bind fun v56 =>
            some v56
            else none
          else
            (if p1 = 5 then
              bif g_is h a0 10 then
              (f_X10_agreeing G h a0).bind fun v68 =>
              some v68
              else none
            else
              (if p1 = 6 then
                (g_gI h a0 10 8).bind fun v81 =>
                some v81
              else
                (if p1 = 7 then
                  (g_gI h a0 10 9).bind fun v94 =>
                  some v94
                else
                  (if p1 = 8 then
                    (g_gI h a0 10 10).bind fun v107 =>
                    some v107
                  else
                    (if p1 = 9 then
                      (g_gI h a0 10 11).bind fun v120 =>
                      some v120
                    else
                      (if p1 = 10 then
                        (g_gA h a0 10 3).bind fun v133 =>
                        (g_aln h v133).bind fun v136 =>
                        some v136
                      else
                        (if p1 = 11 then
                          (g_gI h a0 10 4).bind fun v147 =>
                          some v147
                        else
                          (g_gI h a0 10 5).bind fun v154 =>
                          some v154))))))))))))
set_option maxRecDepth 100000 in
theorem ct_X10_told {l : Launch} {G : gG} {h : gH} {a0 : Nat} {p1 : Int32} {r : Int32} (e : f_X10_told G h a0 p1 = some r) : Ct l G M_X10_told [.ref a0, .int p1] h (some (.int r)) h := by
  refine Ct_of (L := [some (.ref a0), some (.int p1)]) ok_X10_told (by decide +kernel) rfl rfl rfl (ρ := (g_rI h)) (F := f_X10_told G h a0 p1) ?_ e rfl
  unfold f_X10_told
  refine X_iload_n rfl rfl rfl ?_
  refine X_bif_ne rfl rfl (fun _ => ?_) (fun _ => ?_)
  · refine X_aload_n rfl rfl rfl ?_
    refine X_getI rfl rfl (fun v5 => ?_)
    refine X_goto rfl rfl ?_
    exact X_iret rfl rfl rfl rfl rfl rfl rfl
  · refine X_iload_n rfl rfl rfl ?_
    refine X_iconst (v := 1) rfl rfl (by decide) ?_
    refine X_bicmp_ne rfl rfl (fun _ => ?_) (fun _ => ?_)
    · refine X_aload_n rfl rfl rfl ?_
      refine X_getA rfl rfl (fun v17 => ?_)
      refine X_aln rfl rfl (fun v20 => ?_)
      refine X_goto rfl rfl ?_
      exact X_iret rfl rfl rfl rfl rfl rfl rfl
    · refine X_iload_n rfl rfl rfl ?_
      refine X_iconst (v := 2) rfl rfl (by decide) ?_
      refine X_bicmp_ne rfl rfl (fun _ => ?_) (fun _ => ?_)
      · refine X_aload_n rfl rfl rfl ?_
        refine X_getI rfl rfl (fun v30 => ?_)
        refine X_goto rfl rfl ?_
        exact X_iret rfl rfl rfl rfl rfl rfl rfl
      · refine X_iload_n rfl rfl rfl ?_
        refine X_iconst (v := 3) rfl rfl (by decide) ?_
        refine X_bicmp_ne rfl rfl (fun _ => ?_) (fun _ => ?_)
        · refine X_aload_n rfl rfl rfl ?_
          refine X_iconst (v := 0) rfl rfl (by decide) ?_
          refine X_callV_IR (M' := M_X10_inState) (nA := 1) (As := [.int 0]) (st := []) (b := a0) (ci := 10) rfl rfl (by decide +kernel) rfl rfl rfl rfl rfl rfl rfl rfl (fun _ e => ct_X10_inState  e) (fun v43 => ?_)
          refine X_goto rfl rfl ?_
          exact X_iret rfl rfl rfl rfl rfl rfl rfl
        · refine X_iload_n rfl rfl rfl ?_
          refine X_iconst (v := 4) rfl rfl (by decide) ?_
          refine X_bicmp_ne rfl rfl (fun _ => ?_) (fun _ => ?_)
          · refine X_aload_n rfl rfl rfl ?_
            refine X_iconst (v := 2) rfl rfl (by decide) ?_
            refine X_callV_IR (M' := M_X10_inState) (nA := 1) (As := [.int 2]) (st := []) (b := a0) (ci := 10) rfl rfl (by decide +kernel) rfl rfl rfl rfl rfl rfl rfl rfl (fun _ e => ct_X10_inState  e) (fun v56 => ?_)
            refine X_goto rfl rfl ?_
            exact X_iret rfl rfl rfl rfl rfl rfl rfl
          · refine X_iload_n rfl rfl rfl ?_
            refine X_iconst (v := 5) rfl rfl (by decide) ?_
            refine X_bicmp_ne rfl rfl (fun _ => ?_) (fun _ => ?_)
            · refine X_aload_n rfl rfl rfl ?_
              refine X_callV_IR (M' := M_X10_agreeing) (nA := 0) (As := []) (st := []) (b := a0) (ci := 10) rfl rfl (by decide +kernel) rfl rfl rfl rfl rfl rfl rfl rfl (fun _ e => ct_X10_agreeing  e) (fun v68 => ?_)
              refine X_goto rfl rfl ?_
              exact X_iret rfl rfl rfl rfl rfl rfl rfl
            · refine X_iload_n rfl rfl rfl ?_
              refine X_bipush (v := 6) rfl rfl (by decide) ?_
              refine X_bicmp_ne rfl rfl (fun _ => ?_) (fun _ => ?_)
              · refine X_aload_n rfl rfl rfl ?_
                refine X_getI rfl rfl (fun v81 => ?_)
                refine X_goto rfl rfl ?_
                exact X_iret rfl rfl rfl rfl rfl rfl rfl
              · refine X_iload_n rfl rfl rfl ?_
                refine X_bipush (v := 7) rfl rfl (by decide) ?_
                refine X_bicmp_ne rfl rfl (fun _ => ?_) (fun _ => ?_)
                · refine X_aload_n rfl rfl rfl ?_
                  refine X_getI rfl rfl (fun v94 => ?_)
                  refine X_goto rfl rfl ?_
                  exact X_iret rfl rfl rfl rfl rfl rfl rfl
                · refine X_iload_n rfl rfl rfl ?_
                  refine X_bipush (v := 8) rfl rfl (by decide) ?_
                  refine X_bicmp_ne rfl rfl (fun _ => ?_) (fun _ => ?_)
                  · refine X_aload_n rfl rfl rfl ?_
                    refine X_getI rfl rfl (fun v107 => ?_)
                    refine X_goto rfl rfl ?_
                    exact X_iret rfl rfl rfl rfl rfl rfl rfl
                  · refine X_iload_n rfl rfl rfl ?_
                    refine X_bipush (v := 9) rfl rfl (by decide) ?_
                    refine X_bicmp_ne rfl rfl (fun _ => ?_) (fun _ => ?_)
                    · refine X_aload_n rfl rfl rfl ?_
                      refine X_getI rfl rfl (fun v120 => ?_)
                      refine X_goto rfl rfl ?_
                      exact X_iret rfl rfl rfl rfl rfl rfl rfl
                    · refine X_iload_n rfl rfl rfl ?_
                      refine X_bipush (v := 10) rfl rfl (by decide) ?_
                      refine X_bicmp_ne rfl rfl (fun _ => ?_) (fun _ => ?_)
                      · refine X_aload_n rfl rfl rfl ?_
                        refine X_getA rfl rfl (fun v133 => ?_)
                        refine X_aln rfl rfl (fun v136 => ?_)
                        refine X_goto rfl rfl ?_
                        exact X_iret rfl rfl rfl rfl rfl rfl rfl
                      · refine X_iload_n rfl rfl rfl ?_
                        refine X_bipush (v := 11) rfl rfl (by decide) ?_
                        refine X_bicmp_ne rfl rfl (fun _ => ?_) (fun _ => ?_)
                        · refine X_aload_n rfl rfl rfl ?_
                          refine X_getI rfl rfl (fun v147 => ?_)
                          refine X_goto rfl rfl ?_
                          exact X_iret rfl rfl rfl rfl rfl rfl rfl
                        · refine X_aload_n rfl rfl rfl ?_
                          refine X_getI rfl rfl (fun v154 => ?_)
                          exact X_iret rfl rfl rfl rfl rfl rfl rfl
def f_X10_ofLamp (G : gG) (h : gH) (a0 : Nat) (p1 : Int32) (p2 : Int32) : Option (Int32) :=
  (g_gA h a0 10 0).bind fun v1 =>
  (g_qld h v1 7 p1).bind fun v5 =>
  v5.bind fun v5n =>
  (if p2 = 0 then
    (g_gI h v5n 9 0).bind fun v12 =>
    some v12
  else
    (if p2 = 1 then
      (g_gI h v5n 9 1).bind fun v24 =>
      some v24
    else
      (if p2 = 2 then
        (g_gI h v5n 9 2).bind fun v36 =>
        some v36
      else
        (if p2 = 3 then
          (g_gI h a0 10 6).bind fun v49 =>
          bif g_is h v5n 9 then
          (f_X9_isOpen G h v5n (g_rem v49 24)).bind fun v55 =>
          (if v55 = 0 then
            some 0
          else
            some 1)
          else none
        else
          (if p2 = 4 then
            (g_gI h v5n 9 3).bind fun v75 =>
            some v75
          else
            (g_gI h v5n 9 4).bind fun v82 =>
            some v82)))))
set_option maxRecDepth 100000 in
theorem ct_X10_ofLamp {l : Launch} {G : gG} {h : gH} {a0 : Nat} {p1 : Int32} {p2 : Int32} {r : Int32} (e : f_X10_ofLamp G h a0 p1 p2 = some r) : Ct l G M_X10_ofLamp [.ref a0, .int p1, .int p2] h (some (.int r)) h := by
  refine Ct_of (L := [some (.ref a0), some (.int p1), some (.int p2), none]) ok_X10_ofLamp (by decide +kernel) rfl rfl rfl (ρ := (g_rI h)) (F := f_X10_ofLamp G h a0 p1 p2) ?_ e rfl
  unfold f_X10_ofLamp
  refine X_aload_n rfl rfl rfl ?_
  refine X_getA rfl rfl (fun v1 => ?_)
  refine X_iload_n rfl rfl rfl ?_
  refine X_qld9 (t := 7) rfl rfl (by simp) (fun v5 => ?_)
  refine X_nn (fun v5n e5 => ?_)
  subst e5
  refine X_astore_n rfl rfl rfl rfl ?_
  refine X_iload_n rfl rfl rfl ?_
  refine X_bif_ne rfl rfl (fun _ => ?_) (fun _ => ?_)
  · refine X_aload_n rfl rfl rfl ?_
    refine X_getI rfl rfl (fun v12 => ?_)
    refine X_goto rfl rfl ?_
    exact X_iret rfl rfl rfl rfl rfl rfl rfl
  · refine X_iload_n rfl rfl rfl ?_
    refine X_iconst (v := 1) rfl rfl (by decide) ?_
    refine X_bicmp_ne rfl rfl (fun _ => ?_) (fun _ => ?_)
    · refine X_aload_n rfl rfl rfl ?_
      refine X_getI rfl rfl (fun v24 => ?_)
      refine X_goto rfl rfl ?_
      exact X_iret rfl rfl rfl rfl rfl rfl rfl
    · refine X_iload_n rfl rfl rfl ?_
      refine X_iconst (v := 2) rfl rfl (by decide) ?_
      refine X_bicmp_ne rfl rfl (fun _ => ?_) (fun _ => ?_)
      · refine X_aload_n rfl rfl rfl ?_
        refine X_getI rfl rfl (fun v36 => ?_)
        refine X_goto rfl rfl ?_
        exact X_iret rfl rfl rfl rfl rfl rfl rfl
      · refine X_iload_n rfl rfl rfl ?_
        refine X_iconst (v := 3) rfl rfl (by decide) ?_
        refine X_bicmp_ne rfl rfl (fun _ => ?_) (fun _ => ?_)
        · refine X_aload_n rfl rfl rfl ?_
          refine X_aload_n rfl rfl rfl ?_
          refine X_getI rfl rfl (fun v49 => ?_)
          refine X_bipush (v := 24) rfl rfl (by decide) ?_
          refine X_irem (v := g_rem v49 24) rfl rfl rfl (by decide) ?_
          refine X_callV_IR (M' := M_X9_isOpen) (nA := 1) (As := [.int (g_rem v49 24)]) (st := []) (b := v5n) (ci := 9) rfl rfl (by decide +kernel) rfl rfl rfl rfl rfl rfl rfl rfl (fun _ e => ct_X9_isOpen  e) (fun v55 => ?_)
          refine X_bif_eq rfl rfl (fun _ => ?_) (fun _ => ?_)
          · refine X_iconst (v := 0) rfl rfl (by decide) ?_
            refine X_goto rfl rfl ?_
            exact X_iret rfl rfl rfl rfl rfl rfl rfl
          · refine X_iconst (v := 1) rfl rfl (by decide) ?_
            refine X_goto rfl rfl ?_
            exact X_iret rfl rfl rfl rfl rfl rfl rfl
        · refine X_iload_n rfl rfl rfl ?_
          refine X_iconst (v := 4) rfl rfl (by decide) ?_
          refine X_bicmp_ne rfl rfl (fun _ => ?_) (fun _ => ?_)
          · refine X_aload_n rfl rfl rfl ?_
            refine X_getI rfl rfl (fun v75 => ?_)
            refine X_goto rfl rfl ?_
            exact X_iret rfl rfl rfl rfl rfl rfl rfl
          · refine X_aload_n rfl rfl rfl ?_
            refine X_getI rfl rfl (fun v82 => ?_)
            exact X_iret rfl rfl rfl rfl rfl rfl rfl
def f_X12_tries_b13 (G : gG) (h : gH) : Nat → Int32 → Nat → Int32 → Int32 → Option (Int32)
  | 0, _, _, _, _ => none
  | n + 1, l1, l2, l3, l4 =>
    (if l4 < l3 then
      (g_qld h l2 6 l4).bind fun v22 =>
      v22.bind fun v22n =>
      (g_gI h v22n 8 1).bind fun v28 =>
      f_X12_tries_b13 G h n (l1 + v28) l2 l3 (l4 + 1)
    else
      some l1)
def f_X12_tries (G : gG) (h : gH) (a0 : Nat) : Option (Int32) :=
  (g_gA h a0 12 4).bind fun v3 =>
  (g_aln h v3).bind fun v8 =>
  f_X12_tries_b13 G h g_N 0 v3 v8 0
set_option maxRecDepth 100000 in
theorem b_X12_tries_b13 {l : Launch} {G : gG} {h : gH} : ∀ (n : Nat) (l1 : Int32) (l2 : Nat) (l3 : Int32) (l4 : Int32), GX l G M_X12_tries (g_phi G (g_rI h) (m_R M_X12_tries).cells (m_R M_X12_tries).slots) 0 0 13 [none, some (.int l1), some (.ref l2), some (.int l3), some (.int l4), none] [] h (f_X12_tries_b13 G h n l1 l2 l3 l4) := by
  intro n
  induction n with
  | zero => intros; exact X_none
  | succ n ih =>
    intro l1 l2 l3 l4
    rw [f_X12_tries_b13]
    refine X_iload rfl rfl rfl ?_
    refine X_iload_n rfl rfl rfl ?_
    refine X_bicmp_ge rfl rfl (fun _ => ?_) (fun _ => ?_)
    · refine X_aload_n rfl rfl rfl ?_
      refine X_iload rfl rfl rfl ?_
      refine X_qld9 (t := 6) rfl rfl (by simp) (fun v22 => ?_)
      refine X_nn (fun v22n e22 => ?_)
      subst e22
      refine X_astore rfl rfl rfl rfl ?_
      refine X_iload_n rfl rfl rfl ?_
      refine X_aload rfl rfl rfl ?_
      refine X_getI rfl rfl (fun v28 => ?_)
      refine X_iadd rfl rfl ?_
      refine X_istore_n rfl rfl rfl rfl ?_
      refine X_iinc (v := l4 + 1) rfl rfl rfl (congrArg (fun z => l4 + z) (by decide : Int32.ofInt 1 = 1)) rfl ?_
      refine X_goto rfl rfl ?_
      exact X_sub (g_sub_n (g_sub_s (g_sub_s (g_sub_s (g_sub_s (g_sub_n g_sub_0)))))) (ih _ _ _ _)
    · refine X_iload_n rfl rfl rfl ?_
      exact X_iret rfl rfl rfl rfl rfl rfl rfl
set_option maxRecDepth 100000 in
theorem ct_X12_tries {l : Launch} {G : gG} {h : gH} {a0 : Nat} {r : Int32} (e : f_X12_tries G h a0 = some r) : Ct l G M_X12_tries [.ref a0] h (some (.int r)) h := by
  refine Ct_of (L := [some (.ref a0), none, none, none, none, none]) ok_X12_tries (by decide +kernel) rfl rfl rfl (ρ := (g_rI h)) (F := f_X12_tries G h a0) ?_ e rfl
  unfold f_X12_tries
  refine X_iconst (v := 0) rfl rfl (by decide) ?_
  refine X_istore_n rfl rfl rfl rfl ?_
  refine X_aload_n rfl rfl rfl ?_
  refine X_getA rfl rfl (fun v3 => ?_)
  refine X_astore_n rfl rfl rfl rfl ?_
  refine X_aload_n rfl rfl rfl ?_
  refine X_aln rfl rfl (fun v8 => ?_)
  refine X_istore_n rfl rfl rfl rfl ?_
  refine X_iconst (v := 0) rfl rfl (by decide) ?_
  refine X_istore rfl rfl rfl rfl ?_
  exact X_sub (g_sub_n (g_sub_s (g_sub_s (g_sub_s (g_sub_s (g_sub_n g_sub_0)))))) (b_X12_tries_b13 g_N _ _ _ _)
def f_X10_ofTalk (G : gG) (h : gH) (a0 : Nat) (p1 : Int32) (p2 : Int32) : Option (Int32) :=
  (g_gA h a0 10 1).bind fun v1 =>
  (g_qld h v1 8 p1).bind fun v5 =>
  v5.bind fun v5n =>
  (if p2 = 0 then
    (g_gI h v5n 12 0).bind fun v12 =>
    some v12
  else
    (if p2 = 1 then
      (g_gI h v5n 12 1).bind fun v24 =>
      some v24
    else
      (if p2 = 2 then
        (g_gA h v5n 12 3).bind fun v36 =>
        (g_aln h v36).bind fun v39 =>
        some v39
      else
        (if p2 = 3 then
          (g_gA h v5n 12 4).bind fun v49 =>
          (g_aln h v49).bind fun v52 =>
          some v52
        else
          (if p2 = 4 then
            (g_gI h v5n 12 5).bind fun v62 =>
            some v62
          else
            (if p2 = 5 then
              bif g_is h v5n 12 then
              (f_X12_empty G h v5n).bind fun v74 =>
              some v74
              else none
            else
              (if p2 = 6 then
                bif g_is h v5n 12 then
                (f_X12_wrong G h v5n).bind fun v87 =>
                some v87
                else none
              else
                (if p2 = 7 then
                  bif g_is h v5n 12 then
                  (f_X12_tries G h v5n).bind fun v100 =>
                  some v100
                  else none
                else
                  (if p2 = 8 then
                    (g_gI h v5n 12 6).bind fun v113 =>
                    some v113
                  else
                    (g_gI h v5n 12 7).bind fun v120 =>
                    some v120)))))))))
set_option maxRecDepth 100000 in
theorem ct_X10_ofTalk {l : Launch} {G : gG} {h : gH} {a0 : Nat} {p1 : Int32} {p2 : Int32} {r : Int32} (e : f_X10_ofTalk G h a0 p1 p2 = some r) : Ct l G M_X10_ofTalk [.ref a0, .int p1, .int p2] h (some (.int r)) h := by
  refine Ct_of (L := [some (.ref a0), some (.int p1), some (.int p2), none]) ok_X10_ofTalk (by decide +kernel) rfl rfl rfl (ρ := (g_rI h)) (F := f_X10_ofTalk G h a0 p1 p2) ?_ e rfl
  unfold f_X10_ofTalk
  refine X_aload_n rfl rfl rfl ?_
  refine X_getA rfl rfl (fun v1 => ?_)
  refine X_iload_n rfl rfl rfl ?_
  refine X_qld9 (t := 8) rfl rfl (by simp) (fun v5 => ?_)
  refine X_nn (fun v5n e5 => ?_)
  subst e5
  refine X_astore_n rfl rfl rfl rfl ?_
  refine X_iload_n rfl rfl rfl ?_
  refine X_bif_ne rfl rfl (fun _ => ?_) (fun _ => ?_)
  · refine X_aload_n rfl rfl rfl ?_
    refine X_getI rfl rfl (fun v12 => ?_)
    refine X_goto rfl rfl ?_
    exact X_iret rfl rfl rfl rfl rfl rfl rfl
  · refine X_iload_n rfl rfl rfl ?_
    refine X_iconst (v := 1) rfl rfl (by decide) ?_
    refine X_bicmp_ne rfl rfl (fun _ => ?_) (fun _ => ?_)
    · refine X_aload_n rfl rfl rfl ?_
      refine X_getI rfl rfl (fun v24 => ?_)
      refine X_goto rfl rfl ?_
      exact X_iret rfl rfl rfl rfl rfl rfl rfl
    · refine X_iload_n rfl rfl rfl ?_
      refine X_iconst (v := 2) rfl rfl (by decide) ?_
      refine X_bicmp_ne rfl rfl (fun _ => ?_) (fun _ => ?_)
      · refine X_aload_n rfl rfl rfl ?_
        refine X_getA rfl rfl (fun v36 => ?_)
        refine X_aln rfl rfl (fun v39 => ?_)
        refine X_goto rfl rfl ?_
        exact X_iret rfl rfl rfl rfl rfl rfl rfl
      · refine X_iload_n rfl rfl rfl ?_
        refine X_iconst (v := 3) rfl rfl (by decide) ?_
        refine X_bicmp_ne rfl rfl (fun _ => ?_) (fun _ => ?_)
        · refine X_aload_n rfl rfl rfl ?_
          refine X_getA rfl rfl (fun v49 => ?_)
          refine X_aln rfl rfl (fun v52 => ?_)
          refine X_goto rfl rfl ?_
          exact X_iret rfl rfl rfl rfl rfl rfl rfl
        · refine X_iload_n rfl rfl rfl ?_
          refine X_iconst (v := 4) rfl rfl (by decide) ?_
          refine X_bicmp_ne rfl rfl (fun _ => ?_) (fun _ => ?_)
          · refine X_aload_n rfl rfl rfl ?_
            refine X_getI rfl rfl (fun v62 => ?_)
            refine X_goto rfl rfl ?_
            exact X_iret rfl rfl rfl rfl rfl rfl rfl
          · refine X_iload_n rfl rfl rfl ?_
            refine X_iconst (v := 5) rfl rfl (by decide) ?_
            refine X_bicmp_ne rfl rfl (fun _ => ?_) (fun _ => ?_)
            · refine X_aload_n rfl rfl rfl ?_
              refine X_callV_IR (M' := M_X12_empty) (nA := 0) (As := []) (st := []) (b := v5n) (ci := 12) rfl rfl (by decide +kernel) rfl rfl rfl rfl rfl rfl rfl rfl (fun _ e => ct_X12_empty  e) (fun v74 => ?_)
              refine X_goto rfl rfl ?_
              exact X_iret rfl rfl rfl rfl rfl rfl rfl
            · refine X_iload_n rfl rfl rfl ?_
              refine X_bipush (v := 6) rfl rfl (by decide) ?_
              refine X_bicmp_ne rfl rfl (fun _ => ?_) (fun _ => ?_)
              · refine X_aload_n rfl rfl rfl ?_
                refine X_callV_IR (M' := M_X12_wrong) (nA := 0) (As := []) (st := []) (b := v5n) (ci := 12) rfl rfl (by decide +kernel) rfl rfl rfl rfl rfl rfl rfl rfl (fun _ e => ct_X12_wrong  e) (fun v87 => ?_)
                refine X_goto rfl rfl ?_
                exact X_iret rfl rfl rfl rfl rfl rfl rfl
              · refine X_iload_n rfl rfl rfl ?_
                refine X_bipush (v := 7) rfl rfl (by decide) ?_
                refine X_bicmp_ne rfl rfl (fun _ => ?_) (fun _ => ?_)
                · refine X_aload_n rfl rfl rfl ?_
                  refine X_callV_IR (M' := M_X12_tries) (nA := 0) (As := []) (st := []) (b := v5n) (ci := 12) rfl rfl (by decide +kernel) rfl rfl rfl rfl rfl rfl rfl rfl (fun _ e => ct_X12_tries  e) (fun v100 => ?_)
                  refine X_goto rfl rfl ?_
                  exact X_iret rfl rfl rfl rfl rfl rfl rfl
                · refine X_iload_n rfl rfl rfl ?_
                  refine X_bipush (v := 8) rfl rfl (by decide) ?_
                  refine X_bicmp_ne rfl rfl (fun _ => ?_) (fun _ => ?_)
                  · refine X_aload_n rfl rfl rfl ?_
                    refine X_getI rfl rfl (fun v113 => ?_)
                    refine X_goto rfl rfl ?_
                    exact X_iret rfl rfl rfl rfl rfl rfl rfl
                  · refine X_aload_n rfl rfl rfl ?_
                    refine X_getI rfl rfl (fun v120 => ?_)
                    exact X_iret rfl rfl rfl rfl rfl rfl rfl
def f_X10_checksum_b39 (G : gG) (h : gH) (K31 : Nat → Int64 → Int32 → Option (Int64)) : Nat → Nat → Int64 → Int32 → Int32 → Option (Int64)
  | 0, _, _, _, _ => none
  | n + 1, l0, l1, l3, l4 =>
    (if l4 < 6 then
      bif g_is h l0 10 then
      (f_X10_ofLamp G h l0 l3 l4).bind fun v55 =>
      f_X10_checksum_b39 G h K31 n l0 ((31 * l1) + (Int32.toInt64 v55)) l3 (l4 + 1)
      else none
    else
      K31 l0 l1 (l3 + 1))
def f_X10_checksum_b118 (G : gG) (h : gH) (K75 : Nat → Int64 → Int32 → Option (Int64)) : Nat → Nat → Int64 → Int32 → Int32 → Option (Int64)
  | 0, _, _, _, _ => none
  | n + 1, l0, l1, l3, l4 =>
    (g_gA h l0 10 1).bind fun v121 =>
    (g_qld h v121 8 l3).bind fun v125 =>
    v125.bind fun v125n =>
    (g_gA h v125n 12 3).bind fun v126 =>
    (g_aln h v126).bind fun v129 =>
    (if l4 < v129 then
      (g_gA h l0 10 1).bind fun v142 =>
      (g_qld h v142 8 l3).bind fun v146 =>
      v146.bind fun v146n =>
      (g_gA h v146n 12 3).bind fun v147 =>
      (g_ald h v147 l4).bind fun v152 =>
      bif g_is h l0 10 then
      (f_X10_why G h l0 l3 l4).bind fun v160 =>
      f_X10_checksum_b118 G h K75 n l0 ((31 * ((31 * l1) + (Int32.toInt64 v152))) + (Int32.toInt64 v160)) l3 (l4 + 1)
      else none
    else
      K75 l0 l1 (l3 + 1))
def f_X10_checksum_b87 (G : gG) (h : gH) (K75 : Nat → Int64 → Int32 → Option (Int64)) : Nat → Nat → Int64 → Int32 → Int32 → Option (Int64)
  | 0, _, _, _, _ => none
  | n + 1, l0, l1, l3, l4 =>
    (if l4 < 10 then
      bif g_is h l0 10 then
      (f_X10_ofTalk G h l0 l3 l4).bind fun v103 =>
      f_X10_checksum_b87 G h K75 n l0 ((31 * l1) + (Int32.toInt64 v103)) l3 (l4 + 1)
      else none
    else
      f_X10_checksum_b118 G h K75 g_N l0 l1 l3 0)
def f_X10_checksum_b75 (G : gG) (h : gH) : Nat → Nat → Int64 → Int32 → Option (Int64)
  | 0, _, _, _ => none
  | n + 1, l0, l1, l3 =>
    (g_gA h l0 10 1).bind fun v77 =>
    (g_aln h v77).bind fun v80 =>
    (if l3 < v80 then
      f_X10_checksum_b87 G h (f_X10_checksum_b75 G h n) g_N l0 l1 l3 0
    else
      some l1)
def f_X10_checksum_b31 (G : gG) (h : gH) : Nat → Nat → Int64 → Int32 → Option (Int64)
  | 0, _, _, _ => none
  | n + 1, l0, l1, l3 =>
    (if l3 < 2 then
      f_X10_checksum_b39 G h (f_X10_checksum_b31 G h n) g_N l0 l1 l3 0
    else
      f_X10_checksum_b75 G h g_N l0 l1 0)
def f_X10_checksum_b4 (G : gG) (h : gH) : Nat → Nat → Int64 → Int32 → Option (Int64)
  | 0, _, _, _ => none
  | n + 1, l0, l1, l3 =>
    (if l3 < 13 then
      bif g_is h l0 10 then
      (f_X10_told G h l0 l3).bind fun v17 =>
      f_X10_checksum_b4 G h n l0 ((31 * l1) + (Int32.toInt64 v17)) (l3 + 1)
      else none
    else
      f_X10_checksum_b31 G h g_N l0 l1 0)
def f_X10_checksum (G : gG) (h : gH) (a0 : Nat) : Option (Int64) :=
  f_X10_checksum_b4 G h g_N a0 0 0
set_option maxRecDepth 100000 in
theorem b_X10_checksum_b39 {l : Launch} {G : gG} {h : gH} {K31 : Nat → Int64 → Int32 → Option (Int64)} (hK31 : ∀ (l0 : Nat) (l1 : Int64) (l3 : Int32), GX l G M_X10_checksum (g_phi G (g_rL h) (m_R M_X10_checksum).cells (m_R M_X10_checksum).slots) 0 0 31 [some (.ref l0), some (.long l1), none, some (.int l3), none] [] h (K31 l0 l1 l3)) : ∀ (n : Nat) (l0 : Nat) (l1 : Int64) (l3 : Int32) (l4 : Int32), GX l G M_X10_checksum (g_phi G (g_rL h) (m_R M_X10_checksum).cells (m_R M_X10_checksum).slots) 0 0 39 [some (.ref l0), some (.long l1), none, some (.int l3), some (.int l4)] [] h (f_X10_checksum_b39 G h K31 n l0 l1 l3 l4) := by
  intro n
  induction n with
  | zero => intros; exact X_none
  | succ n ih =>
    intro l0 l1 l3 l4
    rw [f_X10_checksum_b39]
    refine X_iload rfl rfl rfl ?_
    refine X_bipush (v := 6) rfl rfl (by decide) ?_
    refine X_bicmp_ge rfl rfl (fun _ => ?_) (fun _ => ?_)
    · refine X_ldc2 (v := 31) rfl rfl (by decide +kernel) ?_
      refine X_lload_n rfl rfl rfl ?_
      refine X_lmul rfl rfl ?_
      refine X_aload_n rfl rfl rfl ?_
      refine X_iload_n rfl rfl rfl ?_
      refine X_iload rfl rfl rfl ?_
      refine X_callV_IR (M' := M_X10_ofLamp) (nA := 2) (As := [.int l3, .int l4]) (st := [.long (31 * l1)]) (b := l0) (ci := 10) rfl rfl (by decide +kernel) rfl rfl rfl rfl rfl rfl rfl rfl (fun _ e => ct_X10_ofLamp  e) (fun v55 => ?_)
      refine X_i2l rfl rfl ?_
      refine X_ladd rfl rfl ?_
      refine X_lstore_n rfl rfl rfl rfl ?_
      refine X_iinc (v := l4 + 1) rfl rfl rfl (congrArg (fun z => l4 + z) (by decide : Int32.ofInt 1 = 1)) rfl ?_
      refine X_goto rfl rfl ?_
      exact X_sub (g_sub_s (g_sub_s (g_sub_n (g_sub_s (g_sub_s g_sub_0))))) (ih _ _ _ _)
    · refine X_iinc (v := l3 + 1) rfl rfl rfl (congrArg (fun z => l3 + z) (by decide : Int32.ofInt 1 = 1)) rfl ?_
      refine X_goto rfl rfl ?_
      exact X_sub (g_sub_s (g_sub_s (g_sub_n (g_sub_s (g_sub_n g_sub_0))))) (hK31 _ _ _)
set_option maxRecDepth 100000 in
theorem b_X10_checksum_b118 {l : Launch} {G : gG} {h : gH} {K75 : Nat → Int64 → Int32 → Option (Int64)} (hK75 : ∀ (l0 : Nat) (l1 : Int64) (l3 : Int32), GX l G M_X10_checksum (g_phi G (g_rL h) (m_R M_X10_checksum).cells (m_R M_X10_checksum).slots) 0 0 75 [some (.ref l0), some (.long l1), none, some (.int l3), none] [] h (K75 l0 l1 l3)) : ∀ (n : Nat) (l0 : Nat) (l1 : Int64) (l3 : Int32) (l4 : Int32), GX l G M_X10_checksum (g_phi G (g_rL h) (m_R M_X10_checksum).cells (m_R M_X10_checksum).slots) 0 0 118 [some (.ref l0), some (.long l1), none, some (.int l3), some (.int l4)] [] h (f_X10_checksum_b118 G h K75 n l0 l1 l3 l4) := by
  intro n
  induction n with
  | zero => intros; exact X_none
  | succ n ih =>
    intro l0 l1 l3 l4
    rw [f_X10_checksum_b118]
    refine X_iload rfl rfl rfl ?_
    refine X_aload_n rfl rfl rfl ?_
    refine X_getA rfl rfl (fun v121 => ?_)
    refine X_iload_n rfl rfl rfl ?_
    refine X_qld9 (t := 8) rfl rfl (by simp) (fun v125 => ?_)
    refine X_nn (fun v125n e125 => ?_)
    subst e125
    refine X_getA rfl rfl (fun v126 => ?_)
    refine X_aln rfl rfl (fun v129 => ?_)
    refine X_bicmp_ge rfl rfl (fun _ => ?_) (fun _ => ?_)
    · refine X_ldc2 (v := 31) rfl rfl (by decide +kernel) ?_
      refine X_ldc2 (v := 31) rfl rfl (by decide +kernel) ?_
      refine X_lload_n rfl rfl rfl ?_
      refine X_lmul rfl rfl ?_
      refine X_aload_n rfl rfl rfl ?_
      refine X_getA rfl rfl (fun v142 => ?_)
      refine X_iload_n rfl rfl rfl ?_
      refine X_qld9 (t := 8) rfl rfl (by simp) (fun v146 => ?_)
      refine X_nn (fun v146n e146 => ?_)
      subst e146
      refine X_getA rfl rfl (fun v147 => ?_)
      refine X_iload rfl rfl rfl ?_
      refine X_ald rfl rfl (fun v152 => ?_)
      refine X_i2l rfl rfl ?_
      refine X_ladd rfl rfl ?_
      refine X_lmul rfl rfl ?_
      refine X_aload_n rfl rfl rfl ?_
      refine X_iload_n rfl rfl rfl ?_
      refine X_iload rfl rfl rfl ?_
      refine X_callV_IR (M' := M_X10_why) (nA := 2) (As := [.int l3, .int l4]) (st := [.long (31 * ((31 * l1) + (Int32.toInt64 v152)))]) (b := l0) (ci := 10) rfl rfl (by decide +kernel) rfl rfl rfl rfl rfl rfl rfl rfl (fun _ e => ct_X10_why  e) (fun v160 => ?_)
      refine X_i2l rfl rfl ?_
      refine X_ladd rfl rfl ?_
      refine X_lstore_n rfl rfl rfl rfl ?_
      refine X_iinc (v := l4 + 1) rfl rfl rfl (congrArg (fun z => l4 + z) (by decide : Int32.ofInt 1 = 1)) rfl ?_
      refine X_goto rfl rfl ?_
      exact X_sub (g_sub_s (g_sub_s (g_sub_n (g_sub_s (g_sub_s g_sub_0))))) (ih _ _ _ _)
    · refine X_iinc (v := l3 + 1) rfl rfl rfl (congrArg (fun z => l3 + z) (by decide : Int32.ofInt 1 = 1)) rfl ?_
      refine X_goto rfl rfl ?_
      exact X_sub (g_sub_s (g_sub_s (g_sub_n (g_sub_s (g_sub_n g_sub_0))))) (hK75 _ _ _)
set_option maxRecDepth 100000 in
theorem b_X10_checksum_b87 {l : Launch} {G : gG} {h : gH} {K75 : Nat → Int64 → Int32 → Option (Int64)} (hK75 : ∀ (l0 : Nat) (l1 : Int64) (l3 : Int32), GX l G M_X10_checksum (g_phi G (g_rL h) (m_R M_X10_checksum).cells (m_R M_X10_checksum).slots) 0 0 75 [some (.ref l0), some (.long l1), none, some (.int l3), none] [] h (K75 l0 l1 l3)) : ∀ (n : Nat) (l0 : Nat) (l1 : Int64) (l3 : Int32) (l4 : Int32), GX l G M_X10_checksum (g_phi G (g_rL h) (m_R M_X10_checksum).cells (m_R M_X10_checksum).slots) 0 0 87 [some (.ref l0), some (.long l1), none, some (.int l3), some (.int l4)] [] h (f_X10_checksum_b87 G h K75 n l0 l1 l3 l4) := by
  intro n
  induction n with
  | zero => intros; exact X_none
  | succ n ih =>
    intro l0 l1 l3 l4
    rw [f_X10_checksum_b87]
    refine X_iload rfl rfl rfl ?_
    refine X_bipush (v := 10) rfl rfl (by decide) ?_
    refine X_bicmp_ge rfl rfl (fun _ => ?_) (fun _ => ?_)
    · refine X_ldc2 (v := 31) rfl rfl (by decide +kernel) ?_
      refine X_lload_n rfl rfl rfl ?_
      refine X_lmul rfl rfl ?_
      refine X_aload_n rfl rfl rfl ?_
      refine X_iload_n rfl rfl rfl ?_
      refine X_iload rfl rfl rfl ?_
      refine X_callV_IR (M' := M_X10_ofTalk) (nA := 2) (As := [.int l3, .int l4]) (st := [.long (31 * l1)]) (b := l0) (ci := 10) rfl rfl (by decide +kernel) rfl rfl rfl rfl rfl rfl rfl rfl (fun _ e => ct_X10_ofTalk  e) (fun v103 => ?_)
      refine X_i2l rfl rfl ?_
      refine X_ladd rfl rfl ?_
      refine X_lstore_n rfl rfl rfl rfl ?_
      refine X_iinc (v := l4 + 1) rfl rfl rfl (congrArg (fun z => l4 + z) (by decide : Int32.ofInt 1 = 1)) rfl ?_
      refine X_goto rfl rfl ?_
      exact X_sub (g_sub_s (g_sub_s (g_sub_n (g_sub_s (g_sub_s g_sub_0))))) (ih _ _ _ _)
    · refine X_iconst (v := 0) rfl rfl (by decide) ?_
      refine X_istore rfl rfl rfl rfl ?_
      exact X_sub (g_sub_s (g_sub_s (g_sub_n (g_sub_s (g_sub_s g_sub_0))))) (b_X10_checksum_b118 hK75 g_N _ _ _ _)
set_option maxRecDepth 100000 in
theorem b_X10_checksum_b75 {l : Launch} {G : gG} {h : gH} : ∀ (n : Nat) (l0 : Nat) (l1 : Int64) (l3 : Int32), GX l G M_X10_checksum (g_phi G (g_rL h) (m_R M_X10_checksum).cells (m_R M_X10_checksum).slots) 0 0 75 [some (.ref l0), some (.long l1), none, some (.int l3), none] [] h (f_X10_checksum_b75 G h n l0 l1 l3) := by
  intro n
  induction n with
  | zero => intros; exact X_none
  | succ n ih =>
    intro l0 l1 l3
    rw [f_X10_checksum_b75]
    refine X_iload_n rfl rfl rfl ?_
    refine X_aload_n rfl rfl rfl ?_
    refine X_getA rfl rfl (fun v77 => ?_)
    refine X_aln rfl rfl (fun v80 => ?_)
    refine X_bicmp_ge rfl rfl (fun _ => ?_) (fun _ => ?_)
    · refine X_iconst (v := 0) rfl rfl (by decide) ?_
      refine X_istore rfl rfl rfl rfl ?_
      exact X_sub (g_sub_s (g_sub_s (g_sub_n (g_sub_s (g_sub_s g_sub_0))))) (b_X10_checksum_b87 ih g_N _ _ _ _)
    · refine X_lload_n rfl rfl rfl ?_
      exact X_lret rfl rfl rfl rfl rfl rfl
set_option maxRecDepth 100000 in
theorem b_X10_checksum_b31 {l : Launch} {G : gG} {h : gH} : ∀ (n : Nat) (l0 : Nat) (l1 : Int64) (l3 : Int32), GX l G M_X10_checksum (g_phi G (g_rL h) (m_R M_X10_checksum).cells (m_R M_X10_checksum).slots) 0 0 31 [some (.ref l0), some (.long l1), none, some (.int l3), none] [] h (f_X10_checksum_b31 G h n l0 l1 l3) := by
  intro n
  induction n with
  | zero => intros; exact X_none
  | succ n ih =>
    intro l0 l1 l3
    rw [f_X10_checksum_b31]
    refine X_iload_n rfl rfl rfl ?_
    refine X_iconst (v := 2) rfl rfl (by decide) ?_
    refine X_bicmp_ge rfl rfl (fun _ => ?_) (fun _ => ?_)
    · refine X_iconst (v := 0) rfl rfl (by decide) ?_
      refine X_istore rfl rfl rfl rfl ?_
      exact X_sub (g_sub_s (g_sub_s (g_sub_n (g_sub_s (g_sub_s g_sub_0))))) (b_X10_checksum_b39 ih g_N _ _ _ _)
    · refine X_iconst (v := 0) rfl rfl (by decide) ?_
      refine X_istore_n rfl rfl rfl rfl ?_
      exact X_sub (g_sub_s (g_sub_s (g_sub_n (g_sub_s (g_sub_n g_sub_0))))) (b_X10_checksum_b75 g_N _ _ _)
set_option maxRecDepth 100000 in
theorem b_X10_checksum_b4 {l : Launch} {G : gG} {h : gH} : ∀ (n : Nat) (l0 : Nat) (l1 : Int64) (l3 : Int32), GX l G M_X10_checksum (g_phi G (g_rL h) (m_R M_X10_checksum).cells (m_R M_X10_checksum).slots) 0 0 4 [some (.ref l0), some (.long l1), none, some (.int l3), none] [] h (f_X10_checksum_b4 G h n l0 l1 l3) := by
  intro n
  induction n with
  | zero => intros; exact X_none
  | succ n ih =>
    intro l0 l1 l3
    rw [f_X10_checksum_b4]
    refine X_iload_n rfl rfl rfl ?_
    refine X_bipush (v := 13) rfl rfl (by decide) ?_
    refine X_bicmp_ge rfl rfl (fun _ => ?_) (fun _ => ?_)
    · refine X_ldc2 (v := 31) rfl rfl (by decide +kernel) ?_
      refine X_lload_n rfl rfl rfl ?_
      refine X_lmul rfl rfl ?_
      refine X_aload_n rfl rfl rfl ?_
      refine X_iload_n rfl rfl rfl ?_
      refine X_callV_IR (M' := M_X10_told) (nA := 1) (As := [.int l3]) (st := [.long (31 * l1)]) (b := l0) (ci := 10) rfl rfl (by decide +kernel) rfl rfl rfl rfl rfl rfl rfl rfl (fun _ e => ct_X10_told  e) (fun v17 => ?_)
      refine X_i2l rfl rfl ?_
      refine X_ladd rfl rfl ?_
      refine X_lstore_n rfl rfl rfl rfl ?_
      refine X_iinc (v := l3 + 1) rfl rfl rfl (congrArg (fun z => l3 + z) (by decide : Int32.ofInt 1 = 1)) rfl ?_
      refine X_goto rfl rfl ?_
      exact X_sub (g_sub_s (g_sub_s (g_sub_n (g_sub_s (g_sub_n g_sub_0))))) (ih _ _ _)
    · refine X_iconst (v := 0) rfl rfl (by decide) ?_
      refine X_istore_n rfl rfl rfl rfl ?_
      exact X_sub (g_sub_s (g_sub_s (g_sub_n (g_sub_s (g_sub_n g_sub_0))))) (b_X10_checksum_b31 g_N _ _ _)
set_option maxRecDepth 100000 in
theorem ct_X10_checksum {l : Launch} {G : gG} {h : gH} {a0 : Nat} {r : Int64} (e : f_X10_checksum G h a0 = some r) : Ct l G M_X10_checksum [.ref a0] h (some (.long r)) h := by
  refine Ct_of (L := [some (.ref a0), none, none, none, none]) ok_X10_checksum (by decide +kernel) rfl rfl rfl (ρ := (g_rL h)) (F := f_X10_checksum G h a0) ?_ e rfl
  unfold f_X10_checksum
  refine X_lconst (v := 0) rfl rfl (by decide) ?_
  refine X_lstore_n rfl rfl rfl rfl ?_
  refine X_iconst (v := 0) rfl rfl (by decide) ?_
  refine X_istore_n rfl rfl rfl rfl ?_
  exact X_sub (g_sub_s (g_sub_s (g_sub_n (g_sub_s (g_sub_n g_sub_0))))) (b_X10_checksum_b4 g_N _ _ _)
def f_X11_init (G : gG) (h : gH) (a0 : Nat) (p1 : Int32) : Option gH :=
  (g_put h a0 11 0 (.int p1)).bind fun h6 =>
  some h6
set_option maxRecDepth 100000 in
theorem ct_X11_init {l : Launch} {G : gG} {h : gH} {a0 : Nat} {p1 : Int32} {h1 : gH} (e : f_X11_init G h a0 p1 = some h1) : Ct l G M_X11_init [.ref a0, .int p1] h none h1 := by
  refine Ct_of (L := [some (.ref a0), some (.int p1)]) ok_X11_init (by decide +kernel) rfl rfl rfl (ρ := g_wU) (F := f_X11_init G h a0 p1) ?_ e rfl
  unfold f_X11_init
  refine X_aload_n rfl rfl rfl ?_
  refine X_objInit rfl rfl (by decide +kernel) (by decide +kernel) (by decide +kernel) rfl rfl ?_
  refine X_aload_n rfl rfl rfl ?_
  refine X_iload_n rfl rfl rfl ?_
  refine X_put rfl rfl rfl rfl rfl (fun h6 => ?_)
  exact X_vret rfl rfl rfl rfl rfl rfl
def f_X11_below (G : gG) (h : gH) (a0 : Nat) (p1 : Int32) : Option (Int32 × gH) :=
  (g_gI h a0 11 0).bind fun v4 =>
  (g_put h a0 11 0 (.int ((1103515245 * v4) + 12345))).bind fun h12 =>
  (g_gI h12 a0 11 0).bind fun v16 =>
  if p1 = 0 then none else
  some (g_rem ((Int32.toUInt32 v16 >>> (Int32.toUInt32 16 &&& Int32.toUInt32 31)).toInt32) p1, h12)
set_option maxRecDepth 100000 in
theorem ct_X11_below {l : Launch} {G : gG} {h : gH} {a0 : Nat} {p1 : Int32} {r : Int32} {h1 : gH} (e : f_X11_below G h a0 p1 = some (r, h1)) : Ct l G M_X11_below [.ref a0, .int p1] h (some (.int r)) h1 := by
  refine Ct_of (L := [some (.ref a0), some (.int p1)]) ok_X11_below (by decide +kernel) rfl rfl rfl (ρ := g_wI) (F := f_X11_below G h a0 p1) ?_ e rfl
  unfold f_X11_below
  refine X_aload_n rfl rfl rfl ?_
  refine X_ldc (v := 1103515245) rfl rfl (by decide +kernel) ?_
  refine X_aload_n rfl rfl rfl ?_
  refine X_getI rfl rfl (fun v4 => ?_)
  refine X_imul rfl rfl ?_
  refine X_sipush (v := 12345) rfl rfl (by decide) ?_
  refine X_iadd rfl rfl ?_
  refine X_put rfl rfl rfl rfl rfl (fun h12 => ?_)
  refine X_aload_n rfl rfl rfl ?_
  refine X_getI rfl rfl (fun v16 => ?_)
  refine X_bipush (v := 16) rfl rfl (by decide) ?_
  refine X_iushr rfl rfl ?_
  refine X_iload_n rfl rfl rfl ?_
  refine X_if (fun _ => X_none) (fun hz => ?_)
  refine X_irem (v := g_rem ((Int32.toUInt32 v16 >>> (Int32.toUInt32 16 &&& Int32.toUInt32 31)).toInt32) p1) rfl rfl rfl hz ?_
  exact X_iret rfl rfl rfl rfl rfl rfl rfl
