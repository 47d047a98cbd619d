def f_X0_init (h : gH) (a0 : Nat) : Option gH :=
  (g_mk h (.inl (0, 8, .inl fun _ => 0))).bind fun h7 =>
  (g_put h7 a0 0 7 (.ref h.1)).bind fun h9 =>
  some h9
set_option maxRecDepth 100000 in
theorem ct_X0_init {l : Launch} {G : gG} {h : gH} {a0 : Nat} {h1 : gH} (e : f_X0_init h a0 = some h1) : Ct l G M_X0_init [.ref a0] h none h1 := by
  refine Ct_of (L := [some (.ref a0)]) ok_X0_init (by decide +kernel) rfl rfl rfl (ρ := g_wU) (F := f_X0_init h a0) ?_ e rfl
  unfold f_X0_init
  refine X_aload_n rfl rfl rfl ?_
  refine X_objInit rfl rfl (by decide +kernel) (by decide +kernel) (by decide +kernel) rfl rfl ?_
  refine X_aload_n rfl rfl rfl ?_
  refine X_bipush (v := 8) rfl rfl (by decide) ?_
  refine X_newarrO (t := 0) (N := 8) (y := (8, .inl fun _ => 0)) (k1 := 1) (n1 := 8) rfl rfl rfl rfl (by decide +kernel) rfl (by decide) (by decide) rfl rfl rfl (fun _ => rfl) (fun h7 => ?_)
  refine X_putF rfl rfl rfl rfl rfl rfl rfl (fun h9 => ?_)
  exact X_vret rfl rfl rfl rfl rfl rfl
def f_X2_init (h : gH) (a0 : Nat) : Option gH :=
  (g_put h a0 2 0 (.int 0)).bind fun h6 =>
  (g_mk h6 (.inl (0, 8, .inl fun _ => 0))).bind fun h12 =>
  (g_put h12 a0 2 1 (.ref h6.1)).bind fun h14 =>
  (g_mk h14 (.inl (0, 8, .inl fun _ => 0))).bind fun h20 =>
  (g_put h20 a0 2 2 (.ref h14.1)).bind fun h22 =>
  some h22
set_option maxRecDepth 100000 in
theorem ct_X2_init {l : Launch} {G : gG} {h : gH} {a0 : Nat} {h1 : gH} (e : f_X2_init h a0 = some h1) : Ct l G M_X2_init [.ref a0] h none h1 := by
  refine Ct_of (L := [some (.ref a0)]) ok_X2_init (by decide +kernel) rfl rfl rfl (ρ := g_wU) (F := f_X2_init h a0) ?_ e rfl
  unfold f_X2_init
  refine X_aload_n rfl rfl rfl ?_
  refine X_objInit rfl rfl (by decide +kernel) (by decide +kernel) (by decide +kernel) rfl rfl ?_
  refine X_aload_n rfl rfl rfl ?_
  refine X_iconst (v := 0) rfl rfl (by decide) ?_
  refine X_put rfl rfl rfl rfl rfl (fun h6 => ?_)
  refine X_aload_n rfl rfl rfl ?_
  refine X_bipush (v := 8) rfl rfl (by decide) ?_
  refine X_newarrO (t := 0) (N := 8) (y := (8, .inl fun _ => 0)) (k1 := 1) (n1 := 8) rfl rfl rfl rfl (by decide +kernel) rfl (by decide) (by decide) rfl rfl rfl (fun _ => rfl) (fun h12 => ?_)
  refine X_putF rfl rfl rfl rfl rfl rfl rfl (fun h14 => ?_)
  refine X_aload_n rfl rfl rfl ?_
  refine X_bipush (v := 8) rfl rfl (by decide) ?_
  refine X_newarrO (t := 0) (N := 8) (y := (8, .inl fun _ => 0)) (k1 := 2) (n1 := 16) rfl rfl rfl rfl (by decide +kernel) rfl (by decide) (by decide) rfl rfl rfl (fun _ => rfl) (fun h20 => ?_)
  refine X_putF rfl rfl rfl rfl rfl rfl rfl (fun h22 => ?_)
  exact X_vret rfl rfl rfl rfl rfl rfl
def f_X4_init (h : gH) (a0 : Nat) : Option gH :=
  (g_put h a0 4 0 (.int 0)).bind fun h6 =>
  (g_mk h6 (.inl (0, 12, .inl fun _ => 0))).bind fun h12 =>
  (g_put h12 a0 4 1 (.ref h6.1)).bind fun h14 =>
  (g_mk h14 (.inl (0, 12, .inl fun _ => 0))).bind fun h20 =>
  (g_put h20 a0 4 2 (.ref h14.1)).bind fun h22 =>
  (g_mk h22 (.inl (0, 12, .inl fun _ => 0))).bind fun h28 =>
  (g_put h28 a0 4 3 (.ref h22.1)).bind fun h30 =>
  some h30
set_option maxRecDepth 100000 in
theorem ct_X4_init {l : Launch} {G : gG} {h : gH} {a0 : Nat} {h1 : gH} (e : f_X4_init h a0 = some h1) : Ct l G M_X4_init [.ref a0] h none h1 := by
  refine Ct_of (L := [some (.ref a0)]) ok_X4_init (by decide +kernel) rfl rfl rfl (ρ := g_wU) (F := f_X4_init h a0) ?_ e rfl
  unfold f_X4_init
  refine X_aload_n rfl rfl rfl ?_
  refine X_objInit rfl rfl (by decide +kernel) (by decide +kernel) (by decide +kernel) rfl rfl ?_
  refine X_aload_n rfl rfl rfl ?_
  refine X_iconst (v := 0) rfl rfl (by decide) ?_
  refine X_put rfl rfl rfl rfl rfl (fun h6 => ?_)
  refine X_aload_n rfl rfl rfl ?_
  refine X_bipush (v := 12) rfl rfl (by decide) ?_
  refine X_newarrO (t := 0) (N := 12) (y := (12, .inl fun _ => 0)) (k1 := 1) (n1 := 12) rfl rfl rfl rfl (by decide +kernel) rfl (by decide) (by decide) rfl rfl rfl (fun _ => rfl) (fun h12 => ?_)
  refine X_putF rfl rfl rfl rfl rfl rfl rfl (fun h14 => ?_)
  refine X_aload_n rfl rfl rfl ?_
  refine X_bipush (v := 12) rfl rfl (by decide) ?_
  refine X_newarrO (t := 0) (N := 12) (y := (12, .inl fun _ => 0)) (k1 := 2) (n1 := 24) rfl rfl rfl rfl (by decide +kernel) rfl (by decide) (by decide) rfl rfl rfl (fun _ => rfl) (fun h20 => ?_)
  refine X_putF rfl rfl rfl rfl rfl rfl rfl (fun h22 => ?_)
  refine X_aload_n rfl rfl rfl ?_
  refine X_bipush (v := 12) rfl rfl (by decide) ?_
  refine X_newarrO (t := 0) (N := 12) (y := (12, .inl fun _ => 0)) (k1 := 3) (n1 := 36) rfl rfl rfl rfl (by decide +kernel) rfl (by decide) (by decide) rfl rfl rfl (fun _ => rfl) (fun h28 => ?_)
  refine X_putF rfl rfl rfl rfl rfl rfl rfl (fun h30 => ?_)
  exact X_vret rfl rfl rfl rfl rfl rfl
def f_X3_init (h : gH) (a0 : Nat) : Option gH :=
  (g_mk h (.inl (0, 24, .inl fun _ => 0))).bind fun h7 =>
  (g_put h7 a0 3 9 (.ref h.1)).bind fun h9 =>
  (g_mk h9 (.inl (0, 24, .inl fun _ => 0))).bind fun h15 =>
  (g_put h15 a0 3 10 (.ref h9.1)).bind fun h17 =>
  (g_mk h17 (.inl (0, 24, .inl fun _ => 0))).bind fun h23 =>
  (g_put h23 a0 3 11 (.ref h17.1)).bind fun h25 =>
  (g_mk h25 (.inl (0, 24, .inl fun _ => 0))).bind fun h31 =>
  (g_put h31 a0 3 12 (.ref h25.1)).bind fun h33 =>
  some h33
set_option maxRecDepth 100000 in
theorem ct_X3_init {l : Launch} {G : gG} {h : gH} {a0 : Nat} {h1 : gH} (e : f_X3_init h a0 = some h1) : Ct l G M_X3_init [.ref a0] h none h1 := by
  refine Ct_of (L := [some (.ref a0)]) ok_X3_init (by decide +kernel) rfl rfl rfl (ρ := g_wU) (F := f_X3_init h a0) ?_ e rfl
  unfold f_X3_init
  refine X_aload_n rfl rfl rfl ?_
  refine X_objInit rfl rfl (by decide +kernel) (by decide +kernel) (by decide +kernel) rfl rfl ?_
  refine X_aload_n rfl rfl rfl ?_
  refine X_bipush (v := 24) rfl rfl (by decide) ?_
  refine X_newarrO (t := 0) (N := 24) (y := (24, .inl fun _ => 0)) (k1 := 1) (n1 := 24) rfl rfl rfl rfl (by decide +kernel) rfl (by decide) (by decide) rfl rfl rfl (fun _ => rfl) (fun h7 => ?_)
  refine X_putF rfl rfl rfl rfl rfl rfl rfl (fun h9 => ?_)
  refine X_aload_n rfl rfl rfl ?_
  refine X_bipush (v := 24) rfl rfl (by decide) ?_
  refine X_newarrO (t := 0) (N := 24) (y := (24, .inl fun _ => 0)) (k1 := 2) (n1 := 48) rfl rfl rfl rfl (by decide +kernel) rfl (by decide) (by decide) rfl rfl rfl (fun _ => rfl) (fun h15 => ?_)
  refine X_putF rfl rfl rfl rfl rfl rfl rfl (fun h17 => ?_)
  refine X_aload_n rfl rfl rfl ?_
  refine X_bipush (v := 24) rfl rfl (by decide) ?_
  refine X_newarrO (t := 0) (N := 24) (y := (24, .inl fun _ => 0)) (k1 := 3) (n1 := 72) rfl rfl rfl rfl (by decide +kernel) rfl (by decide) (by decide) rfl rfl rfl (fun _ => rfl) (fun h23 => ?_)
  refine X_putF rfl rfl rfl rfl rfl rfl rfl (fun h25 => ?_)
  refine X_aload_n rfl rfl rfl ?_
  refine X_bipush (v := 24) rfl rfl (by decide) ?_
  refine X_newarrO (t := 0) (N := 24) (y := (24, .inl fun _ => 0)) (k1 := 4) (n1 := 96) rfl rfl rfl rfl (by decide +kernel) rfl (by decide) (by decide) rfl rfl rfl (fun _ => rfl) (fun h31 => ?_)
  refine X_putF rfl rfl rfl rfl rfl rfl rfl (fun h33 => ?_)
  exact X_vret rfl rfl rfl rfl rfl rfl
def f_X6_init (h : gH) (a0 : Nat) : Option gH :=
  (g_mk h (.inl (4, 8, .inr (.inr (.inr (.inr (fun _ => none))))))).bind fun h7 =>
  (g_put h7 a0 6 9 (.ref h.1)).bind fun h10 =>
  (g_mk h10 (.inr (3, g_dfl 3))).bind fun h14 =>
  (f_X3_init h14 h10.1).bind fun h18 =>
  (g_put h18 a0 6 10 (.ref h10.1)).bind fun h21 =>
  (g_mk h21 (.inr (0, g_dfl 0))).bind fun h25 =>
  (f_X0_init h25 h21.1).bind fun h29 =>
  (g_put h29 a0 6 11 (.ref h21.1)).bind fun h32 =>
  (g_mk h32 (.inr (0, g_dfl 0))).bind fun h36 =>
  (f_X0_init h36 h32.1).bind fun h40 =>
  (g_put h40 a0 6 12 (.ref h32.1)).bind fun h43 =>
  (g_mk h43 (.inr (2, g_dfl 2))).bind fun h47 =>
  (f_X2_init h47 h43.1).bind fun h51 =>
  (g_put h51 a0 6 13 (.ref h43.1)).bind fun h54 =>
  (g_mk h54 (.inr (2, g_dfl 2))).bind fun h58 =>
  (f_X2_init h58 h54.1).bind fun h62 =>
  (g_put h62 a0 6 14 (.ref h54.1)).bind fun h65 =>
  (g_mk h65 (.inr (4, g_dfl 4))).bind fun h69 =>
  (f_X4_init h69 h65.1).bind fun h73 =>
  (g_put h73 a0 6 15 (.ref h65.1)).bind fun h76 =>
  (g_gA h76 a0 6 9).bind fun v83 =>
  (g_aln h76 v83).bind fun v86 =>
  (if 0 < v86 then
  (g_gA h76 a0 6 9).bind fun v91 =>
  (g_mk h76 (.inr (3, g_dfl 3))).bind fun h95_0 =>
  (f_X3_init h95_0 h76.1).bind fun h99_0 =>
  bif g_is h99_0 h76.1 3 then (g_qst h99_0 v91 4 0 h76.1).bind fun h102_0 =>
  (g_gA h102_0 a0 6 9).bind fun v83 =>
  (g_aln h102_0 v83).bind fun v86 =>
  (if (0 + 1) < v86 then
  (g_gA h102_0 a0 6 9).bind fun v91 =>
  (g_mk h102_0 (.inr (3, g_dfl 3))).bind fun h95_1 =>
  (f_X3_init h95_1 h102_0.1).bind fun h99_1 =>
  bif g_is h99_1 h102_0.1 3 then (g_qst h99_1 v91 4 (0 + 1) h102_0.1).bind fun h102_1 =>
  (g_gA h102_1 a0 6 9).bind fun v83 =>
  (g_aln h102_1 v83).bind fun v86 =>
  (if ((0 + 1) + 1) < v86 then
  (g_gA h102_1 a0 6 9).bind fun v91 =>
  (g_mk h102_1 (.inr (3, g_dfl 3))).bind fun h95_2 =>
  (f_X3_init h95_2 h102_1.1).bind fun h99_2 =>
  bif g_is h99_2 h102_1.1 3 then (g_qst h99_2 v91 4 ((0 + 1) + 1) h102_1.1).bind fun h102_2 =>
  (g_gA h102_2 a0 6 9).bind fun v83 =>
  (g_aln h102_2 v83).bind fun v86 =>
  (if (((0 + 1) + 1) + 1) < v86 then
  (g_gA h102_2 a0 6 9).bind fun v91 =>
  (g_mk h102_2 (.inr (3, g_dfl 3))).bind fun h95_3 =>
  (f_X3_init h95_3 h102_2.1).bind fun h99_3 =>
  bif g_is h99_3 h102_2.1 3 then (g_qst h99_3 v91 4 (((0 + 1) + 1) + 1) h102_2.1).bind fun h102_3 =>
  (g_gA h102_3 a0 6 9).bind fun v83 =>
  (g_aln h102_3 v83).bind fun v86 =>
  (if ((((0 + 1) + 1) + 1) + 1) < v86 then
  (g_gA h102_3 a0 6 9).bind fun v91 =>
  (g_mk h102_3 (.inr (3, g_dfl 3))).bind fun h95_4 =>
  (f_X3_init h95_4 h102_3.1).bind fun h99_4 =>
  bif g_is h99_4 h102_3.1 3 then (g_qst h99_4 v91 4 ((((0 + 1) + 1) + 1) + 1) h102_3.1).bind fun h102_4 =>
  (g_gA h102_4 a0 6 9).bind fun v83 =>
  (g_aln h102_4 v83).bind fun v86 =>
  (if (((((0 + 1) + 1) + 1) + 1) + 1) < v86 then
  (g_gA h102_4 a0 6 9).bind fun v91 =>
  (g_mk h102_4 (.inr (3, g_dfl 3))).bind fun h95_5 =>
  (f_X3_init h95_5 h102_4.1).bind fun h99_5 =>
  bif g_is h99_5 h102_4.1 3 then (g_qst h99_5 v91 4 (((((0 + 1) + 1) + 1) + 1) + 1) h102_4.1).bind fun h102_5 =>
  (g_gA h102_5 a0 6 9).bind fun v83 =>
  (g_aln h102_5 v83).bind fun v86 =>
  (if ((((((0 + 1) + 1) + 1) + 1) + 1) + 1) < v86 then
  (g_gA h102_5 a0 6 9).bind fun v91 =>
  (g_mk h102_5 (.inr (3, g_dfl 3))).bind fun h95_6 =>
  (f_X3_init h95_6 h102_5.1).bind fun h99_6 =>
  bif g_is h99_6 h102_5.1 3 then (g_qst h99_6 v91 4 ((((((0 + 1) + 1) + 1) + 1) + 1) + 1) h102_5.1).bind fun h102_6 =>
  (g_gA h102_6 a0 6 9).bind fun v83 =>
  (g_aln h102_6 v83).bind fun v86 =>
  (if (((((((0 + 1) + 1) + 1) + 1) + 1) + 1) + 1) < v86 then
  (g_gA h102_6 a0 6 9).bind fun v91 =>
  (g_mk h102_6 (.inr (3, g_dfl 3))).bind fun h95_7 =>
  (f_X3_init h95_7 h102_6.1).bind fun h99_7 =>
  bif g_is h99_7 h102_6.1 3 then (g_qst h99_7 v91 4 (((((((0 + 1) + 1) + 1) + 1) + 1) + 1) + 1) h102_6.1).bind fun h102_7 =>
  (g_gA h102_7 a0 6 9).bind fun v83 =>
  (g_aln h102_7 v83).bind fun v86 =>
  (if ((((((((0 + 1) + 1) + 1) + 1) + 1) + 1) + 1) + 1) < v86 then none else
  bif g_is h102_7 a0 6 then
  (f_X6_clear h102_7 a0 4 3).bind fun h112 =>
  some h112
  else none)
  else none
  else none)
  else none
  else none)
  else none
  else none)
  else none
  else none)
  else none
  else none)
  else none
  else none)
  else none
  else none)
  else none
  else none)
set_option maxRecDepth 100000 in
theorem ct_X6_init {l : Launch} {G : gG} {h : gH} {a0 : Nat} {h1 : gH} (e : f_X6_init h a0 = some h1) : Ct l G M_X6_init [.ref a0] h none h1 := by
  refine Ct_of (L := [some (.ref a0), none]) ok_X6_init (by decide +kernel) rfl rfl rfl (ρ := g_wU) (F := f_X6_init h a0) ?_ e rfl
  unfold f_X6_init
  refine X_aload_n rfl rfl rfl ?_
  refine X_objInit rfl rfl (by decide +kernel) (by decide +kernel) (by decide +kernel) rfl rfl ?_
  refine X_aload_n rfl rfl rfl ?_
  refine X_bipush (v := 8) rfl rfl (by decide) ?_
  refine X_anewO (t := 4) (N := 8) (C := "LampRelay$Message") (k1 := 1) (n1 := 8) rfl rfl rfl rfl (by decide +kernel) (by decide +kernel) rfl (by decide) (by decide) rfl rfl rfl (fun h7 => ?_)
  refine X_putF rfl rfl rfl rfl rfl rfl rfl (fun h10 => ?_)
  refine X_aload_n rfl rfl rfl ?_
  refine X_newO (k1 := 2) (n1 := 21) rfl rfl rfl (by decide +kernel) rfl rfl (fun h14 => ?_)
  refine X_dup rfl rfl rfl ?_
  refine X_callIN_U (M' := M_X3_init) (nA := 0) (As := []) (st := [.ref h10.1, .ref a0]) (b := h10.1) (k1 := 6) (n1 := 117) rfl rfl (by decide +kernel) rfl rfl rfl rfl rfl rfl rfl (fun _ e => ct_X3_init e) (fun h18 => ?_)
  refine X_putF rfl rfl rfl rfl rfl rfl rfl (fun h21 => ?_)
  refine X_aload_n rfl rfl rfl ?_
  refine X_newO (k1 := 7) (n1 := 127) rfl rfl rfl (by decide +kernel) rfl rfl (fun h25 => ?_)
  refine X_dup rfl rfl rfl ?_
  refine X_callIN_U (M' := M_X0_init) (nA := 0) (As := []) (st := [.ref h21.1, .ref a0]) (b := h21.1) (k1 := 8) (n1 := 135) rfl rfl (by decide +kernel) rfl rfl rfl rfl rfl rfl rfl (fun _ e => ct_X0_init e) (fun h29 => ?_)
  refine X_putF rfl rfl rfl rfl rfl rfl rfl (fun h32 => ?_)
  refine X_aload_n rfl rfl rfl ?_
  refine X_newO (k1 := 9) (n1 := 145) rfl rfl rfl (by decide +kernel) rfl rfl (fun h36 => ?_)
  refine X_dup rfl rfl rfl ?_
  refine X_callIN_U (M' := M_X0_init) (nA := 0) (As := []) (st := [.ref h32.1, .ref a0]) (b := h32.1) (k1 := 10) (n1 := 153) rfl rfl (by decide +kernel) rfl rfl rfl rfl rfl rfl rfl (fun _ e => ct_X0_init e) (fun h40 => ?_)
  refine X_putF rfl rfl rfl rfl rfl rfl rfl (fun h43 => ?_)
  refine X_aload_n rfl rfl rfl ?_
  refine X_newO (k1 := 11) (n1 := 156) rfl rfl rfl (by decide +kernel) rfl rfl (fun h47 => ?_)
  refine X_dup rfl rfl rfl ?_
  refine X_callIN_U (M' := M_X2_init) (nA := 0) (As := []) (st := [.ref h43.1, .ref a0]) (b := h43.1) (k1 := 13) (n1 := 172) rfl rfl (by decide +kernel) rfl rfl rfl rfl rfl rfl rfl (fun _ e => ct_X2_init e) (fun h51 => ?_)
  refine X_putF rfl rfl rfl rfl rfl rfl rfl (fun h54 => ?_)
  refine X_aload_n rfl rfl rfl ?_
  refine X_newO (k1 := 14) (n1 := 175) rfl rfl rfl (by decide +kernel) rfl rfl (fun h58 => ?_)
  refine X_dup rfl rfl rfl ?_
  refine X_callIN_U (M' := M_X2_init) (nA := 0) (As := []) (st := [.ref h54.1, .ref a0]) (b := h54.1) (k1 := 16) (n1 := 191) rfl rfl (by decide +kernel) rfl rfl rfl rfl rfl rfl rfl (fun _ e => ct_X2_init e) (fun h62 => ?_)
  refine X_putF rfl rfl rfl rfl rfl rfl rfl (fun h65 => ?_)
  refine X_aload_n rfl rfl rfl ?_
  refine X_newO (k1 := 17) (n1 := 195) rfl rfl rfl (by decide +kernel) rfl rfl (fun h69 => ?_)
  refine X_dup rfl rfl rfl ?_
  refine X_callIN_U (M' := M_X4_init) (nA := 0) (As := []) (st := [.ref h65.1, .ref a0]) (b := h65.1) (k1 := 20) (n1 := 231) rfl rfl (by decide +kernel) rfl rfl rfl rfl rfl rfl rfl (fun _ e => ct_X4_init e) (fun h73 => ?_)
  refine X_putF rfl rfl rfl rfl rfl rfl rfl (fun h76 => ?_)
  refine X_iconst (v := 0) rfl rfl (by decide) ?_
  refine X_istore_n rfl rfl rfl rfl ?_
  refine X_iload_n rfl rfl rfl ?_
  refine X_aload_n rfl rfl rfl ?_
  refine X_getA rfl rfl (fun v83 => ?_)
  refine X_aln rfl rfl (fun v86 => ?_)
  refine X_bicmp_ge rfl rfl (fun _ => ?_) (fun _ => X_none)
  refine X_aload_n rfl rfl rfl ?_
  refine X_getA rfl rfl (fun v91 => ?_)
  refine X_iload_n rfl rfl rfl ?_
  refine X_newO (k1 := 21) (n1 := 244) rfl rfl rfl (by decide +kernel) rfl rfl (fun h95_0 => ?_)
  refine X_dup rfl rfl rfl ?_
  refine X_callIN_U (M' := M_X3_init) (nA := 0) (As := []) (st := [.ref h76.1, .int 0, .ref v91]) (b := h76.1) (k1 := 25) (n1 := 340) rfl rfl (by decide +kernel) rfl rfl rfl rfl rfl rfl rfl (fun _ e => ct_X3_init e) (fun h99_0 => ?_)
  refine X_qst (t := 4) (ci := 3) (C := "LampRelay$Message") rfl rfl rfl rfl (fun h102_0 => ?_)
  refine X_iinc (v := 0 + 1) rfl rfl rfl (congrArg (fun z => 0 + z) (by decide : Int32.ofInt 1 = 1)) rfl ?_
  refine X_goto rfl rfl ?_
  refine X_iload_n rfl rfl rfl ?_
  refine X_aload_n rfl rfl rfl ?_
  refine X_getA rfl rfl (fun v83 => ?_)
  refine X_aln rfl rfl (fun v86 => ?_)
  refine X_bicmp_ge rfl rfl (fun _ => ?_) (fun _ => X_none)
  refine X_aload_n rfl rfl rfl ?_
  refine X_getA rfl rfl (fun v91 => ?_)
  refine X_iload_n rfl rfl rfl ?_
  refine X_newO (k1 := 26) (n1 := 353) rfl rfl rfl (by decide +kernel) rfl rfl (fun h95_1 => ?_)
  refine X_dup rfl rfl rfl ?_
  refine X_callIN_U (M' := M_X3_init) (nA := 0) (As := []) (st := [.ref h102_0.1, .int (0 + 1), .ref v91]) (b := h102_0.1) (k1 := 30) (n1 := 449) rfl rfl (by decide +kernel) rfl rfl rfl rfl rfl rfl rfl (fun _ e => ct_X3_init e) (fun h99_1 => ?_)
  refine X_qst (t := 4) (ci := 3) (C := "LampRelay$Message") rfl rfl rfl rfl (fun h102_1 => ?_)
  refine X_iinc (v := (0 + 1) + 1) rfl rfl rfl (congrArg (fun z => (0 + 1) + z) (by decide : Int32.ofInt 1 = 1)) rfl ?_
  refine X_goto rfl rfl ?_
  refine X_iload_n rfl rfl rfl ?_
  refine X_aload_n rfl rfl rfl ?_
  refine X_getA rfl rfl (fun v83 => ?_)
  refine X_aln rfl rfl (fun v86 => ?_)
  refine X_bicmp_ge rfl rfl (fun _ => ?_) (fun _ => X_none)
  refine X_aload_n rfl rfl rfl ?_
  refine X_getA rfl rfl (fun v91 => ?_)
  refine X_iload_n rfl rfl rfl ?_
  refine X_newO (k1 := 31) (n1 := 462) rfl rfl rfl (by decide +kernel) rfl rfl (fun h95_2 => ?_)
  refine X_dup rfl rfl rfl ?_
  refine X_callIN_U (M' := M_X3_init) (nA := 0) (As := []) (st := [.ref h102_1.1, .int ((0 + 1) + 1), .ref v91]) (b := h102_1.1) (k1 := 35) (n1 := 558) rfl rfl (by decide +kernel) rfl rfl rfl rfl rfl rfl rfl (fun _ e => ct_X3_init e) (fun h99_2 => ?_)
  refine X_qst (t := 4) (ci := 3) (C := "LampRelay$Message") rfl rfl rfl rfl (fun h102_2 => ?_)
  refine X_iinc (v := ((0 + 1) + 1) + 1) rfl rfl rfl (congrArg (fun z => ((0 + 1) + 1) + z) (by decide : Int32.ofInt 1 = 1)) rfl ?_
  refine X_goto rfl rfl ?_
  refine X_iload_n rfl rfl rfl ?_
  refine X_aload_n rfl rfl rfl ?_
  refine X_getA rfl rfl (fun v83 => ?_)
  refine X_aln rfl rfl (fun v86 => ?_)
  refine X_bicmp_ge rfl rfl (fun _ => ?_) (fun _ => X_none)
  refine X_aload_n rfl rfl rfl ?_
  refine X_getA rfl rfl (fun v91 => ?_)
  refine X_iload_n rfl rfl rfl ?_
  refine X_newO (k1 := 36) (n1 := 571) rfl rfl rfl (by decide +kernel) rfl rfl (fun h95_3 => ?_)
  refine X_dup rfl rfl rfl ?_
  refine X_callIN_U (M' := M_X3_init) (nA := 0) (As := []) (st := [.ref h102_2.1, .int (((0 + 1) + 1) + 1), .ref v91]) (b := h102_2.1) (k1 := 40) (n1 := 667) rfl rfl (by decide +kernel) rfl rfl rfl rfl rfl rfl rfl (fun _ e => ct_X3_init e) (fun h99_3 => ?_)
  refine X_qst (t := 4) (ci := 3) (C := "LampRelay$Message") rfl rfl rfl rfl (fun h102_3 => ?_)
  refine X_iinc (v := (((0 + 1) + 1) + 1) + 1) rfl rfl rfl (congrArg (fun z => (((0 + 1) + 1) + 1) + z) (by decide : Int32.ofInt 1 = 1)) rfl ?_
  refine X_goto rfl rfl ?_
  refine X_iload_n rfl rfl rfl ?_
  refine X_aload_n rfl rfl rfl ?_
  refine X_getA rfl rfl (fun v83 => ?_)
  refine X_aln rfl rfl (fun v86 => ?_)
  refine X_bicmp_ge rfl rfl (fun _ => ?_) (fun _ => X_none)
  refine X_aload_n rfl rfl rfl ?_
  refine X_getA rfl rfl (fun v91 => ?_)
  refine X_iload_n rfl rfl rfl ?_
  refine X_newO (k1 := 41) (n1 := 680) rfl rfl rfl (by decide +kernel) rfl rfl (fun h95_4 => ?_)
  refine X_dup rfl rfl rfl ?_
  refine X_callIN_U (M' := M_X3_init) (nA := 0) (As := []) (st := [.ref h102_3.1, .int ((((0 + 1) + 1) + 1) + 1), .ref v91]) (b := h102_3.1) (k1 := 45) (n1 := 776) rfl rfl (by decide +kernel) rfl rfl rfl rfl rfl rfl rfl (fun _ e => ct_X3_init e) (fun h99_4 => ?_)
  refine X_qst (t := 4) (ci := 3) (C := "LampRelay$Message") rfl rfl rfl rfl (fun h102_4 => ?_)
  refine X_iinc (v := ((((0 + 1) + 1) + 1) + 1) + 1) rfl rfl rfl (congrArg (fun z => ((((0 + 1) + 1) + 1) + 1) + z) (by decide : Int32.ofInt 1 = 1)) rfl ?_
  refine X_goto rfl rfl ?_
  refine X_iload_n rfl rfl rfl ?_
  refine X_aload_n rfl rfl rfl ?_
  refine X_getA rfl rfl (fun v83 => ?_)
  refine X_aln rfl rfl (fun v86 => ?_)
  refine X_bicmp_ge rfl rfl (fun _ => ?_) (fun _ => X_none)
  refine X_aload_n rfl rfl rfl ?_
  refine X_getA rfl rfl (fun v91 => ?_)
  refine X_iload_n rfl rfl rfl ?_
  refine X_newO (k1 := 46) (n1 := 789) rfl rfl rfl (by decide +kernel) rfl rfl (fun h95_5 => ?_)
  refine X_dup rfl rfl rfl ?_
  refine X_callIN_U (M' := M_X3_init) (nA := 0) (As := []) (st := [.ref h102_4.1, .int (((((0 + 1) + 1) + 1) + 1) + 1), .ref v91]) (b := h102_4.1) (k1 := 50) (n1 := 885) rfl rfl (by decide +kernel) rfl rfl rfl rfl rfl rfl rfl (fun _ e => ct_X3_init e) (fun h99_5 => ?_)
  refine X_qst (t := 4) (ci := 3) (C := "LampRelay$Message") rfl rfl rfl rfl (fun h102_5 => ?_)
  refine X_iinc (v := (((((0 + 1) + 1) + 1) + 1) + 1) + 1) rfl rfl rfl (congrArg (fun z => (((((0 + 1) + 1) + 1) + 1) + 1) + z) (by decide : Int32.ofInt 1 = 1)) rfl ?_
  refine X_goto rfl rfl ?_
  refine X_iload_n rfl rfl rfl ?_
  refine X_aload_n rfl rfl rfl ?_
  refine X_getA rfl rfl (fun v83 => ?_)
  refine X_aln rfl rfl (fun v86 => ?_)
  refine X_bicmp_ge rfl rfl (fun _ => ?_) (fun _ => X_none)
  refine X_aload_n rfl rfl rfl ?_
  refine X_getA rfl rfl (fun v91 => ?_)
  refine X_iload_n rfl rfl rfl ?_
  refine X_newO (k1 := 51) (n1 := 898) rfl rfl rfl (by decide +kernel) rfl rfl (fun h95_6 => ?_)
  refine X_dup rfl rfl rfl ?_
  refine X_callIN_U (M' := M_X3_init) (nA := 0) (As := []) (st := [.ref h102_5.1, .int ((((((0 + 1) + 1) + 1) + 1) + 1) + 1), .ref v91]) (b := h102_5.1) (k1 := 55) (n1 := 994) rfl rfl (by decide +kernel) rfl rfl rfl rfl rfl rfl rfl (fun _ e => ct_X3_init e) (fun h99_6 => ?_)
  refine X_qst (t := 4) (ci := 3) (C := "LampRelay$Message") rfl rfl rfl rfl (fun h102_6 => ?_)
  refine X_iinc (v := ((((((0 + 1) + 1) + 1) + 1) + 1) + 1) + 1) rfl rfl rfl (congrArg (fun z => ((((((0 + 1) + 1) + 1) + 1) + 1) + 1) + z) (by decide : Int32.ofInt 1 = 1)) rfl ?_
  refine X_goto rfl rfl ?_
  refine X_iload_n rfl rfl rfl ?_
  refine X_aload_n rfl rfl rfl ?_
  refine X_getA rfl rfl (fun v83 => ?_)
  refine X_aln rfl rfl (fun v86 => ?_)
  refine X_bicmp_ge rfl rfl (fun _ => ?_) (fun _ => X_none)
  refine X_aload_n rfl rfl rfl ?_
  refine X_getA rfl rfl (fun v91 => ?_)
  refine X_iload_n rfl rfl rfl ?_
  refine X_newO (k1 := 56) (n1 := 1007) rfl rfl rfl (by decide +kernel) rfl rfl (fun h95_7 => ?_)
  refine X_dup rfl rfl rfl ?_
  refine X_callIN_U (M' := M_X3_init) (nA := 0) (As := []) (st := [.ref h102_6.1, .int (((((((0 + 1) + 1) + 1) + 1) + 1) + 1) + 1), .ref v91]) (b := h102_6.1) (k1 := 60) (n1 := 1103) rfl rfl (by decide +kernel) rfl rfl rfl rfl rfl rfl rfl (fun _ e => ct_X3_init e) (fun h99_7 => ?_)
  refine X_qst (t := 4) (ci := 3) (C := "LampRelay$Message") rfl rfl rfl rfl (fun h102_7 => ?_)
  refine X_iinc (v := (((((((0 + 1) + 1) + 1) + 1) + 1) + 1) + 1) + 1) rfl rfl rfl (congrArg (fun z => (((((((0 + 1) + 1) + 1) + 1) + 1) + 1) + 1) + z) (by decide : Int32.ofInt 1 = 1)) rfl ?_
  refine X_goto rfl rfl ?_
  refine X_iload_n rfl rfl rfl ?_
  refine X_aload_n rfl rfl rfl ?_
  refine X_getA rfl rfl (fun v83 => ?_)
  refine X_aln rfl rfl (fun v86 => ?_)
  refine X_bicmp_ge rfl rfl (fun _ => X_none) (fun _ => ?_)
  refine X_aload_n rfl rfl rfl ?_
  refine X_iconst (v := 4) rfl rfl (by decide) ?_
  refine X_iconst (v := 3) rfl rfl (by decide) ?_
  refine X_callV_UW (M' := M_X6_clear) (nA := 2) (As := [.int 4, .int 3]) (st := []) (b := a0) (ci := 6) rfl rfl (by decide +kernel) rfl rfl rfl rfl rfl rfl rfl rfl (fun _ e => ct_X6_clear e) (fun h112 => ?_)
  exact X_vret rfl rfl rfl rfl rfl rfl
def f_X1_init (h : gH) (a0 : Nat) : Option gH :=
  (g_mk h (.inl (5, 8, .inr (.inr (.inr (.inr (fun _ => none))))))).bind fun h7 =>
  (g_put h7 a0 1 0 (.ref h.1)).bind fun h10 =>
  (g_put h10 a0 1 1 (.int 0)).bind fun h15 =>
  (g_put h15 a0 1 2 (.int 0)).bind fun h20 =>
  (g_gA h20 a0 1 0).bind fun v27 =>
  (g_aln h20 v27).bind fun v30 =>
  (if 0 < v30 then
  (g_gA h20 a0 1 0).bind fun v35 =>
  (g_mk h20 (.inr (6, g_dfl 6))).bind fun h39_0 =>
  (f_X6_init h39_0 h20.1).bind fun h43_0 =>
  bif g_is h43_0 h20.1 6 then (g_qst h43_0 v35 5 0 h20.1).bind fun h46_0 =>
  (g_gA h46_0 a0 1 0).bind fun v27 =>
  (g_aln h46_0 v27).bind fun v30 =>
  (if (0 + 1) < v30 then
  (g_gA h46_0 a0 1 0).bind fun v35 =>
  (g_mk h46_0 (.inr (6, g_dfl 6))).bind fun h39_1 =>
  (f_X6_init h39_1 h46_0.1).bind fun h43_1 =>
  bif g_is h43_1 h46_0.1 6 then (g_qst h43_1 v35 5 (0 + 1) h46_0.1).bind fun h46_1 =>
  (g_gA h46_1 a0 1 0).bind fun v27 =>
  (g_aln h46_1 v27).bind fun v30 =>
  (if ((0 + 1) + 1) < v30 then
  (g_gA h46_1 a0 1 0).bind fun v35 =>
  (g_mk h46_1 (.inr (6, g_dfl 6))).bind fun h39_2 =>
  (f_X6_init h39_2 h46_1.1).bind fun h43_2 =>
  bif g_is h43_2 h46_1.1 6 then (g_qst h43_2 v35 5 ((0 + 1) + 1) h46_1.1).bind fun h46_2 =>
  (g_gA h46_2 a0 1 0).bind fun v27 =>
  (g_aln h46_2 v27).bind fun v30 =>
  (if (((0 + 1) + 1) + 1) < v30 then
  (g_gA h46_2 a0 1 0).bind fun v35 =>
  (g_mk h46_2 (.inr (6, g_dfl 6))).bind fun h39_3 =>
  (f_X6_init h39_3 h46_2.1).bind fun h43_3 =>
  bif g_is h43_3 h46_2.1 6 then (g_qst h43_3 v35 5 (((0 + 1) + 1) + 1) h46_2.1).bind fun h46_3 =>
  (g_gA h46_3 a0 1 0).bind fun v27 =>
  (g_aln h46_3 v27).bind fun v30 =>
  (if ((((0 + 1) + 1) + 1) + 1) < v30 then
  (g_gA h46_3 a0 1 0).bind fun v35 =>
  (g_mk h46_3 (.inr (6, g_dfl 6))).bind fun h39_4 =>
  (f_X6_init h39_4 h46_3.1).bind fun h43_4 =>
  bif g_is h43_4 h46_3.1 6 then (g_qst h43_4 v35 5 ((((0 + 1) + 1) + 1) + 1) h46_3.1).bind fun h46_4 =>
  (g_gA h46_4 a0 1 0).bind fun v27 =>
  (g_aln h46_4 v27).bind fun v30 =>
  (if (((((0 + 1) + 1) + 1) + 1) + 1) < v30 then
  (g_gA h46_4 a0 1 0).bind fun v35 =>
  (g_mk h46_4 (.inr (6, g_dfl 6))).bind fun h39_5 =>
  (f_X6_init h39_5 h46_4.1).bind fun h43_5 =>
  bif g_is h43_5 h46_4.1 6 then (g_qst h43_5 v35 5 (((((0 + 1) + 1) + 1) + 1) + 1) h46_4.1).bind fun h46_5 =>
  (g_gA h46_5 a0 1 0).bind fun v27 =>
  (g_aln h46_5 v27).bind fun v30 =>
  (if ((((((0 + 1) + 1) + 1) + 1) + 1) + 1) < v30 then
  (g_gA h46_5 a0 1 0).bind fun v35 =>
  (g_mk h46_5 (.inr (6, g_dfl 6))).bind fun h39_6 =>
  (f_X6_init h39_6 h46_5.1).bind fun h43_6 =>
  bif g_is h43_6 h46_5.1 6 then (g_qst h43_6 v35 5 ((((((0 + 1) + 1) + 1) + 1) + 1) + 1) h46_5.1).bind fun h46_6 =>
  (g_gA h46_6 a0 1 0).bind fun v27 =>
  (g_aln h46_6 v27).bind fun v30 =>
  (if (((((((0 + 1) + 1) + 1) + 1) + 1) + 1) + 1) < v30 then
  (g_gA h46_6 a0 1 0).bind fun v35 =>
  (g_mk h46_6 (.inr (6, g_dfl 6))).bind fun h39_7 =>
  (f_X6_init h39_7 h46_6.1).bind fun h43_7 =>
  bif g_is h43_7 h46_6.1 6 then (g_qst h43_7 v35 5 (((((((0 + 1) + 1) + 1) + 1) + 1) + 1) + 1) h46_6.1).bind fun h46_7 =>
  (g_gA h46_7 a0 1 0).bind fun v27 =>
  (g_aln h46_7 v27).bind fun v30 =>
  (if ((((((((0 + 1) + 1) + 1) + 1) + 1) + 1) + 1) + 1) < v30 then none else
  some h46_7)
  else none
  else none)
  else none
  else none)
  else none
  else none)
  else none
  else none)
  else none
  else none)
  else none
  else none)
  else none
  else none)
  else none
  else none)
set_option maxRecDepth 100000 in
theorem ct_X1_init {l : Launch} {G : gG} {h : gH} {a0 : Nat} {h1 : gH} (e : f_X1_init h a0 = some h1) : Ct l G M_X1_init [.ref a0] h none h1 := by
  refine Ct_of (L := [some (.ref a0), none]) ok_X1_init (by decide +kernel) rfl rfl rfl (ρ := g_wU) (F := f_X1_init h a0) ?_ e rfl
  unfold f_X1_init
  refine X_aload_n rfl rfl rfl ?_
  refine X_objInit rfl rfl (by decide +kernel) (by decide +kernel) (by decide +kernel) rfl rfl ?_
  refine X_aload_n rfl rfl rfl ?_
  refine X_bipush (v := 8) rfl rfl (by decide) ?_
  refine X_anewO (t := 5) (N := 8) (C := "LampRelay$World") (k1 := 1) (n1 := 8) rfl rfl rfl rfl (by decide +kernel) (by decide +kernel) rfl (by decide) (by decide) rfl rfl rfl (fun h7 => ?_)
  refine X_putF rfl rfl rfl rfl rfl rfl rfl (fun h10 => ?_)
  refine X_aload_n rfl rfl rfl ?_
  refine X_iconst (v := 0) rfl rfl (by decide) ?_
  refine X_put rfl rfl rfl rfl rfl (fun h15 => ?_)
  refine X_aload_n rfl rfl rfl ?_
  refine X_iconst (v := 0) rfl rfl (by decide) ?_
  refine X_put rfl rfl rfl rfl rfl (fun h20 => ?_)
  refine X_iconst (v := 0) rfl rfl (by decide) ?_
  refine X_istore_n rfl rfl rfl rfl ?_
  refine X_iload_n rfl rfl rfl ?_
  refine X_aload_n rfl rfl rfl ?_
  refine X_getA rfl rfl (fun v27 => ?_)
  refine X_aln rfl rfl (fun v30 => ?_)
  refine X_bicmp_ge rfl rfl (fun _ => ?_) (fun _ => X_none)
  refine X_aload_n rfl rfl rfl ?_
  refine X_getA rfl rfl (fun v35 => ?_)
  refine X_iload_n rfl rfl rfl ?_
  refine X_newO (k1 := 2) (n1 := 24) rfl rfl rfl (by decide +kernel) rfl rfl (fun h39_0 => ?_)
  refine X_dup rfl rfl rfl ?_
  refine X_callI_U (M' := M_X6_init) (nA := 0) (As := []) (st := [.ref h20.1, .int 0, .ref v35]) (b := h20.1) (k1 := 62) (n1 := 1127) rfl rfl (by decide +kernel) rfl rfl rfl rfl rfl rfl rfl (fun _ e => ct_X6_init e) (fun h43_0 => ?_)
  refine X_qst (t := 5) (ci := 6) (C := "LampRelay$World") rfl rfl rfl rfl (fun h46_0 => ?_)
  refine X_iinc (v := 0 + 1) rfl rfl rfl (congrArg (fun z => 0 + z) (by decide : Int32.ofInt 1 = 1)) rfl ?_
  refine X_goto rfl rfl ?_
  refine X_iload_n rfl rfl rfl ?_
  refine X_aload_n rfl rfl rfl ?_
  refine X_getA rfl rfl (fun v27 => ?_)
  refine X_aln rfl rfl (fun v30 => ?_)
  refine X_bicmp_ge rfl rfl (fun _ => ?_) (fun _ => X_none)
  refine X_aload_n rfl rfl rfl ?_
  refine X_getA rfl rfl (fun v35 => ?_)
  refine X_iload_n rfl rfl rfl ?_
  refine X_newO (k1 := 63) (n1 := 1143) rfl rfl rfl (by decide +kernel) rfl rfl (fun h39_1 => ?_)
  refine X_dup rfl rfl rfl ?_
  refine X_callI_U (M' := M_X6_init) (nA := 0) (As := []) (st := [.ref h46_0.1, .int (0 + 1), .ref v35]) (b := h46_0.1) (k1 := 123) (n1 := 2246) rfl rfl (by decide +kernel) rfl rfl rfl rfl rfl rfl rfl (fun _ e => ct_X6_init e) (fun h43_1 => ?_)
  refine X_qst (t := 5) (ci := 6) (C := "LampRelay$World") rfl rfl rfl rfl (fun h46_1 => ?_)
  refine X_iinc (v := (0 + 1) + 1) rfl rfl rfl (congrArg (fun z => (0 + 1) + z) (by decide : Int32.ofInt 1 = 1)) rfl ?_
  refine X_goto rfl rfl ?_
  refine X_iload_n rfl rfl rfl ?_
  refine X_aload_n rfl rfl rfl ?_
  refine X_getA rfl rfl (fun v27 => ?_)
  refine X_aln rfl rfl (fun v30 => ?_)
  refine X_bicmp_ge rfl rfl (fun _ => ?_) (fun _ => X_none)
  refine X_aload_n rfl rfl rfl ?_
  refine X_getA rfl rfl (fun v35 => ?_)
  refine X_iload_n rfl rfl rfl ?_
  refine X_newO (k1 := 124) (n1 := 2262) rfl rfl rfl (by decide +kernel) rfl rfl (fun h39_2 => ?_)
  refine X_dup rfl rfl rfl ?_
  refine X_callI_U (M' := M_X6_init) (nA := 0) (As := []) (st := [.ref h46_1.1, .int ((0 + 1) + 1), .ref v35]) (b := h46_1.1) (k1 := 184) (n1 := 3365) rfl rfl (by decide +kernel) rfl rfl rfl rfl rfl rfl rfl (fun _ e => ct_X6_init e) (fun h43_2 => ?_)
  refine X_qst (t := 5) (ci := 6) (C := "LampRelay$World") rfl rfl rfl rfl (fun h46_2 => ?_)
  refine X_iinc (v := ((0 + 1) + 1) + 1) rfl rfl rfl (congrArg (fun z => ((0 + 1) + 1) + z) (by decide : Int32.ofInt 1 = 1)) rfl ?_
  refine X_goto rfl rfl ?_
  refine X_iload_n rfl rfl rfl ?_
  refine X_aload_n rfl rfl rfl ?_
  refine X_getA rfl rfl (fun v27 => ?_)
  refine X_aln rfl rfl (fun v30 => ?_)
  refine X_bicmp_ge rfl rfl (fun _ => ?_) (fun _ => X_none)
  refine X_aload_n rfl rfl rfl ?_
  refine X_getA rfl rfl (fun v35 => ?_)
  refine X_iload_n rfl rfl rfl ?_
  refine X_newO (k1 := 185) (n1 := 3381) rfl rfl rfl (by decide +kernel) rfl rfl (fun h39_3 => ?_)
  refine X_dup rfl rfl rfl ?_
  refine X_callI_U (M' := M_X6_init) (nA := 0) (As := []) (st := [.ref h46_2.1, .int (((0 + 1) + 1) + 1), .ref v35]) (b := h46_2.1) (k1 := 245) (n1 := 4484) rfl rfl (by decide +kernel) rfl rfl rfl rfl rfl rfl rfl (fun _ e => ct_X6_init e) (fun h43_3 => ?_)
  refine X_qst (t := 5) (ci := 6) (C := "LampRelay$World") rfl rfl rfl rfl (fun h46_3 => ?_)
  refine X_iinc (v := (((0 + 1) + 1) + 1) + 1) rfl rfl rfl (congrArg (fun z => (((0 + 1) + 1) + 1) + z) (by decide : Int32.ofInt 1 = 1)) rfl ?_
  refine X_goto rfl rfl ?_
  refine X_iload_n rfl rfl rfl ?_
  refine X_aload_n rfl rfl rfl ?_
  refine X_getA rfl rfl (fun v27 => ?_)
  refine X_aln rfl rfl (fun v30 => ?_)
  refine X_bicmp_ge rfl rfl (fun _ => ?_) (fun _ => X_none)
  refine X_aload_n rfl rfl rfl ?_
  refine X_getA rfl rfl (fun v35 => ?_)
  refine X_iload_n rfl rfl rfl ?_
  refine X_newO (k1 := 246) (n1 := 4500) rfl rfl rfl (by decide +kernel) rfl rfl (fun h39_4 => ?_)
  refine X_dup rfl rfl rfl ?_
  refine X_callI_U (M' := M_X6_init) (nA := 0) (As := []) (st := [.ref h46_3.1, .int ((((0 + 1) + 1) + 1) + 1), .ref v35]) (b := h46_3.1) (k1 := 306) (n1 := 5603) rfl rfl (by decide +kernel) rfl rfl rfl rfl rfl rfl rfl (fun _ e => ct_X6_init e) (fun h43_4 => ?_)
  refine X_qst (t := 5) (ci := 6) (C := "LampRelay$World") rfl rfl rfl rfl (fun h46_4 => ?_)
  refine X_iinc (v := ((((0 + 1) + 1) + 1) + 1) + 1) rfl rfl rfl (congrArg (fun z => ((((0 + 1) + 1) + 1) + 1) + z) (by decide : Int32.ofInt 1 = 1)) rfl ?_
  refine X_goto rfl rfl ?_
  refine X_iload_n rfl rfl rfl ?_
  refine X_aload_n rfl rfl rfl ?_
  refine X_getA rfl rfl (fun v27 => ?_)
  refine X_aln rfl rfl (fun v30 => ?_)
  refine X_bicmp_ge rfl rfl (fun _ => ?_) (fun _ => X_none)
  refine X_aload_n rfl rfl rfl ?_
  refine X_getA rfl rfl (fun v35 => ?_)
  refine X_iload_n rfl rfl rfl ?_
  refine X_newO (k1 := 307) (n1 := 5619) rfl rfl rfl (by decide +kernel) rfl rfl (fun h39_5 => ?_)
  refine X_dup rfl rfl rfl ?_
  refine X_callI_U (M' := M_X6_init) (nA := 0) (As := []) (st := [.ref h46_4.1, .int (((((0 + 1) + 1) + 1) + 1) + 1), .ref v35]) (b := h46_4.1) (k1 := 367) (n1 := 6722) rfl rfl (by decide +kernel) rfl rfl rfl rfl rfl rfl rfl (fun _ e => ct_X6_init e) (fun h43_5 => ?_)
  refine X_qst (t := 5) (ci := 6) (C := "LampRelay$World") rfl rfl rfl rfl (fun h46_5 => ?_)
  refine X_iinc (v := (((((0 + 1) + 1) + 1) + 1) + 1) + 1) rfl rfl rfl (congrArg (fun z => (((((0 + 1) + 1) + 1) + 1) + 1) + z) (by decide : Int32.ofInt 1 = 1)) rfl ?_
  refine X_goto rfl rfl ?_
  refine X_iload_n rfl rfl rfl ?_
  refine X_aload_n rfl rfl rfl ?_
  refine X_getA rfl rfl (fun v27 => ?_)
  refine X_aln rfl rfl (fun v30 => ?_)
  refine X_bicmp_ge rfl rfl (fun _ => ?_) (fun _ => X_none)
  refine X_aload_n rfl rfl rfl ?_
  refine X_getA rfl rfl (fun v35 => ?_)
  refine X_iload_n rfl rfl rfl ?_
  refine X_newO (k1 := 368) (n1 := 6738) rfl rfl rfl (by decide +kernel) rfl rfl (fun h39_6 => ?_)
  refine X_dup rfl rfl rfl ?_
  refine X_callI_U (M' := M_X6_init) (nA := 0) (As := []) (st := [.ref h46_5.1, .int ((((((0 + 1) + 1) + 1) + 1) + 1) + 1), .ref v35]) (b := h46_5.1) (k1 := 428) (n1 := 7841) rfl rfl (by decide +kernel) rfl rfl rfl rfl rfl rfl rfl (fun _ e => ct_X6_init e) (fun h43_6 => ?_)
  refine X_qst (t := 5) (ci := 6) (C := "LampRelay$World") rfl rfl rfl rfl (fun h46_6 => ?_)
  refine X_iinc (v := ((((((0 + 1) + 1) + 1) + 1) + 1) + 1) + 1) rfl rfl rfl (congrArg (fun z => ((((((0 + 1) + 1) + 1) + 1) + 1) + 1) + z) (by decide : Int32.ofInt 1 = 1)) rfl ?_
  refine X_goto rfl rfl ?_
  refine X_iload_n rfl rfl rfl ?_
  refine X_aload_n rfl rfl rfl ?_
  refine X_getA rfl rfl (fun v27 => ?_)
  refine X_aln rfl rfl (fun v30 => ?_)
  refine X_bicmp_ge rfl rfl (fun _ => ?_) (fun _ => X_none)
  refine X_aload_n rfl rfl rfl ?_
  refine X_getA rfl rfl (fun v35 => ?_)
  refine X_iload_n rfl rfl rfl ?_
  refine X_newO (k1 := 429) (n1 := 7857) rfl rfl rfl (by decide +kernel) rfl rfl (fun h39_7 => ?_)
  refine X_dup rfl rfl rfl ?_
  refine X_callI_U (M' := M_X6_init) (nA := 0) (As := []) (st := [.ref h46_6.1, .int (((((((0 + 1) + 1) + 1) + 1) + 1) + 1) + 1), .ref v35]) (b := h46_6.1) (k1 := 489) (n1 := 8960) rfl rfl (by decide +kernel) rfl rfl rfl rfl rfl rfl rfl (fun _ e => ct_X6_init e) (fun h43_7 => ?_)
  refine X_qst (t := 5) (ci := 6) (C := "LampRelay$World") rfl rfl rfl rfl (fun h46_7 => ?_)
  refine X_iinc (v := (((((((0 + 1) + 1) + 1) + 1) + 1) + 1) + 1) + 1) rfl rfl rfl (congrArg (fun z => (((((((0 + 1) + 1) + 1) + 1) + 1) + 1) + 1) + z) (by decide : Int32.ofInt 1 = 1)) rfl ?_
  refine X_goto rfl rfl ?_
  refine X_iload_n rfl rfl rfl ?_
  refine X_aload_n rfl rfl rfl ?_
  refine X_getA rfl rfl (fun v27 => ?_)
  refine X_aln rfl rfl (fun v30 => ?_)
  refine X_bicmp_ge rfl rfl (fun _ => X_none) (fun _ => ?_)
  exact X_vret rfl rfl rfl rfl rfl rfl
def f_X7_init (h : gH) (a0 : Nat) : Option gH :=
  (g_mk h (.inl (1, 500, .inl fun _ => 0))).bind fun h8 =>
  (g_put h8 a0 7 0 (.ref h.1)).bind fun h10 =>
  (g_put h10 a0 7 1 (.int 0)).bind fun h15 =>
  (g_put h15 a0 7 2 (.int (-1))).bind fun h20 =>
  (g_mk h20 (.inr (6, g_dfl 6))).bind fun h24 =>
  (f_X6_init h24 h20.1).bind fun h28 =>
  (g_put h28 a0 7 3 (.ref h20.1)).bind fun h31 =>
  (g_mk h31 (.inr (6, g_dfl 6))).bind fun h35 =>
  (f_X6_init h35 h31.1).bind fun h39 =>
  (g_put h39 a0 7 4 (.ref h31.1)).bind fun h42 =>
  (g_mk h42 (.inr (1, g_dfl 1))).bind fun h46 =>
  (f_X1_init h46 h42.1).bind fun h50 =>
  (g_put h50 a0 7 5 (.ref h42.1)).bind fun h53 =>
  some h53
set_option maxRecDepth 100000 in
theorem ct_X7_init {l : Launch} {G : gG} {h : gH} {a0 : Nat} {h1 : gH} (e : f_X7_init h a0 = some h1) : Ct l G M_X7_init [.ref a0] h none h1 := by
  refine Ct_of (L := [some (.ref a0)]) ok_X7_init (by decide +kernel) rfl rfl rfl (ρ := g_wU) (F := f_X7_init h a0) ?_ e rfl
  unfold f_X7_init
  refine X_aload_n rfl rfl rfl ?_
  refine X_objInit rfl rfl (by decide +kernel) (by decide +kernel) (by decide +kernel) rfl rfl ?_
  refine X_aload_n rfl rfl rfl ?_
  refine X_sipush (v := 500) rfl rfl (by decide) ?_
  refine X_newarrO (t := 1) (N := 500) (y := (500, .inl fun _ => 0)) (k1 := 1) (n1 := 500) rfl rfl rfl rfl (by decide +kernel) rfl (by decide) (by decide) rfl rfl rfl (fun _ => rfl) (fun h8 => ?_)
  refine X_putF rfl rfl rfl rfl rfl rfl rfl (fun h10 => ?_)
  refine X_aload_n rfl rfl rfl ?_
  refine X_iconst (v := 0) rfl rfl (by decide) ?_
  refine X_put rfl rfl rfl rfl rfl (fun h15 => ?_)
  refine X_aload_n rfl rfl rfl ?_
  refine X_iconst (v := -1) rfl rfl (by decide) ?_
  refine X_put rfl rfl rfl rfl rfl (fun h20 => ?_)
  refine X_aload_n rfl rfl rfl ?_
  refine X_newO (k1 := 2) (n1 := 516) rfl rfl rfl (by decide +kernel) rfl rfl (fun h24 => ?_)
  refine X_dup rfl rfl rfl ?_
  refine X_callI_U (M' := M_X6_init) (nA := 0) (As := []) (st := [.ref h20.1, .ref a0]) (b := h20.1) (k1 := 62) (n1 := 1619) rfl rfl (by decide +kernel) rfl rfl rfl rfl rfl rfl rfl (fun _ e => ct_X6_init e) (fun h28 => ?_)
  refine X_putF rfl rfl rfl rfl rfl rfl rfl (fun h31 => ?_)
  refine X_aload_n rfl rfl rfl ?_
  refine X_newO (k1 := 63) (n1 := 1635) rfl rfl rfl (by decide +kernel) rfl rfl (fun h35 => ?_)
  refine X_dup rfl rfl rfl ?_
  refine X_callI_U (M' := M_X6_init) (nA := 0) (As := []) (st := [.ref h31.1, .ref a0]) (b := h31.1) (k1 := 123) (n1 := 2738) rfl rfl (by decide +kernel) rfl rfl rfl rfl rfl rfl rfl (fun _ e => ct_X6_init e) (fun h39 => ?_)
  refine X_putF rfl rfl rfl rfl rfl rfl rfl (fun h42 => ?_)
  refine X_aload_n rfl rfl rfl ?_
  refine X_newO (k1 := 124) (n1 := 2741) rfl rfl rfl (by decide +kernel) rfl rfl (fun h46 => ?_)
  refine X_dup rfl rfl rfl ?_
  refine X_callI_U (M' := M_X1_init) (nA := 0) (As := []) (st := [.ref h42.1, .ref a0]) (b := h42.1) (k1 := 613) (n1 := 11701) rfl rfl (by decide +kernel) rfl rfl rfl rfl rfl rfl rfl (fun _ e => ct_X1_init e) (fun h50 => ?_)
  refine X_putF rfl rfl rfl rfl rfl rfl rfl (fun h53 => ?_)
  exact X_vret rfl rfl rfl rfl rfl rfl
def f_X5_init (h : gH) (a0 : Nat) (p1 : Nat) (p2 : Int32) : Option gH :=
  (g_put h a0 5 2 (.int 0)).bind fun h6 =>
  (g_put h6 a0 5 3 (.int 0)).bind fun h11 =>
  (g_put h11 a0 5 4 (.int 0)).bind fun h16 =>
  (g_put h16 a0 5 5 (.int 0)).bind fun h21 =>
  (g_put h21 a0 5 6 (.int (-1))).bind fun h26 =>
  (g_put h26 a0 5 0 (.ref p1)).bind fun h31 =>
  (g_put h31 a0 5 1 (.int p2)).bind fun h36 =>
  some h36
set_option maxRecDepth 100000 in
theorem ct_X5_init {l : Launch} {G : gG} {h : gH} {a0 : Nat} {p1 : Nat} {p2 : Int32} {h1 : gH} (e : f_X5_init h a0 p1 p2 = some h1) : Ct l G M_X5_init [.ref a0, .ref p1, .int p2] h none h1 := by
  refine Ct_of (L := [some (.ref a0), some (.ref p1), some (.int p2)]) ok_X5_init (by decide +kernel) rfl rfl rfl (ρ := g_wU) (F := f_X5_init h a0 p1 p2) ?_ e rfl
  unfold f_X5_init
  refine X_aload_n rfl rfl rfl ?_
  refine X_objInit rfl rfl (by decide +kernel) (by decide +kernel) (by decide +kernel) rfl rfl ?_
  refine X_aload_n rfl rfl rfl ?_
  refine X_iconst (v := 0) rfl rfl (by decide) ?_
  refine X_put rfl rfl rfl rfl rfl (fun h6 => ?_)
  refine X_aload_n rfl rfl rfl ?_
  refine X_iconst (v := 0) rfl rfl (by decide) ?_
  refine X_put rfl rfl rfl rfl rfl (fun h11 => ?_)
  refine X_aload_n rfl rfl rfl ?_
  refine X_iconst (v := 0) rfl rfl (by decide) ?_
  refine X_put rfl rfl rfl rfl rfl (fun h16 => ?_)
  refine X_aload_n rfl rfl rfl ?_
  refine X_iconst (v := 0) rfl rfl (by decide) ?_
  refine X_put rfl rfl rfl rfl rfl (fun h21 => ?_)
  refine X_aload_n rfl rfl rfl ?_
  refine X_iconst (v := -1) rfl rfl (by decide) ?_
  refine X_put rfl rfl rfl rfl rfl (fun h26 => ?_)
  refine X_aload_n rfl rfl rfl ?_
  refine X_aload_n rfl rfl rfl ?_
  refine X_putF rfl rfl rfl rfl rfl rfl rfl (fun h31 => ?_)
  refine X_aload_n rfl rfl rfl ?_
  refine X_iload_n rfl rfl rfl ?_
  refine X_putF rfl rfl rfl rfl rfl rfl rfl (fun h36 => ?_)
  exact X_vret rfl rfl rfl rfl rfl rfl
