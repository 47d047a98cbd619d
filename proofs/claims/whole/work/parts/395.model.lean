def f_X8_channelAt (p0 : Int32) : Int32 :=
  10 + (16 * p0)
set_option maxRecDepth 100000 in
theorem ct_X8_channelAt {l : Launch} {G : gG} {h : gH} {p0 : Int32} : Ct l G M_X8_channelAt [.int p0] h (some (.int (f_X8_channelAt p0))) h := by
  refine Ct_of (L := [some (.int p0)]) ok_X8_channelAt (by decide +kernel) rfl rfl rfl (ρ := (g_rI h)) (F := some (f_X8_channelAt p0)) ?_ rfl rfl
  unfold f_X8_channelAt
  refine X_bipush (v := 10) rfl rfl (by decide) ?_
  refine X_bipush (v := 16) rfl rfl (by decide) ?_
  refine X_iload_n rfl rfl rfl ?_
  refine X_imul rfl rfl ?_
  refine X_iadd rfl rfl ?_
  exact X_iret rfl rfl rfl rfl rfl rfl rfl
def f_X8_layRelay_b35 : Nat → gH → Nat → Int32 → Option gH
  | 0, _, _, _ => none
  | n + 1, h, l0, l3 =>
    (if l3 < 2 then
      (g_ast h l0 ((f_X8_channelAt l3) + 0) 5).bind fun h48 =>
      (g_ast h48 l0 ((f_X8_channelAt l3) + 3) (-1)).bind fun h57 =>
      (g_ast h57 l0 ((f_X8_channelAt l3) + 4) (-1)).bind fun h66 =>
      f_X8_layRelay_b35  n h66 l0 (l3 + 1)
    else
      some h)
def f_X8_layRelay_b2 : Nat → gH → Nat → Int32 → Int32 → Int32 → Option gH
  | 0, _, _, _, _, _ => none
  | n + 1, h, l0, l1, l2, l3 =>
    (if l3 < 928 then
      (g_ast h l0 l3 0).bind fun h12 =>
      f_X8_layRelay_b2  n h12 l0 l1 l2 (l3 + 1)
    else
      (g_ast h l0 2 (-1)).bind fun h22 =>
      (g_ast h22 l0 8 l1).bind fun h27 =>
      (g_ast h27 l0 9 l2).bind fun h32 =>
      f_X8_layRelay_b35 g_N h32 l0 0)
def f_X8_layRelay (h : gH) (p0 : Nat) (p1 : Int32) (p2 : Int32) : Option gH :=
  f_X8_layRelay_b2 g_N h p0 p1 p2 0
set_option maxRecDepth 100000 in
theorem b_X8_layRelay_b35 {l : Launch} {G : gG} : ∀ (n : Nat) (h : gH) (l0 : Nat) (l3 : Int32), GX l G M_X8_layRelay (g_phi G g_wU (m_R M_X8_layRelay).cells (m_R M_X8_layRelay).slots) 0 0 35 [some (.ref l0), none, none, some (.int l3)] [] h (f_X8_layRelay_b35 n h l0 l3) := by
  intro n
  induction n with
  | zero => intros; exact X_none
  | succ n ih =>
    intro h l0 l3
    rw [f_X8_layRelay_b35]
    refine X_iload_n rfl rfl rfl ?_
    refine X_iconst (v := 2) rfl rfl (by decide) ?_
    refine X_bicmp_ge rfl rfl (fun _ => ?_) (fun _ => ?_)
    · refine X_aload_n rfl rfl rfl ?_
      refine X_iload_n rfl rfl rfl ?_
      refine X_callS_IP (v := f_X8_channelAt l3) (M' := M_X8_channelAt) (nA := 1) (As := [.int l3]) (st := [.ref l0]) rfl rfl (by decide +kernel) rfl rfl rfl rfl rfl rfl rfl ct_X8_channelAt ?_
      refine X_iconst (v := 0) rfl rfl (by decide) ?_
      refine X_iadd rfl rfl ?_
      refine X_iconst (v := 5) rfl rfl (by decide) ?_
      refine X_ast rfl rfl (fun h48 => ?_)
      refine X_aload_n rfl rfl rfl ?_
      refine X_iload_n rfl rfl rfl ?_
      refine X_callS_IP (v := f_X8_channelAt l3) (M' := M_X8_channelAt) (nA := 1) (As := [.int l3]) (st := [.ref l0]) rfl rfl (by decide +kernel) rfl rfl rfl rfl rfl rfl rfl ct_X8_channelAt ?_
      refine X_iconst (v := 3) rfl rfl (by decide) ?_
      refine X_iadd rfl rfl ?_
      refine X_iconst (v := -1) rfl rfl (by decide) ?_
      refine X_ast rfl rfl (fun h57 => ?_)
      refine X_aload_n rfl rfl rfl ?_
      refine X_iload_n rfl rfl rfl ?_
      refine X_callS_IP (v := f_X8_channelAt l3) (M' := M_X8_channelAt) (nA := 1) (As := [.int l3]) (st := [.ref l0]) rfl rfl (by decide +kernel) rfl rfl rfl rfl rfl rfl rfl ct_X8_channelAt ?_
      refine X_iconst (v := 4) rfl rfl (by decide) ?_
      refine X_iadd rfl rfl ?_
      refine X_iconst (v := -1) rfl rfl (by decide) ?_
      refine X_ast rfl rfl (fun h66 => ?_)
      refine X_iinc (v := l3 + 1) rfl rfl rfl (congrArg (fun z => l3 + z) (by decide : Int32.ofInt 1 = 1)) rfl ?_
      refine X_goto rfl rfl ?_
      exact X_sub (g_sub_s (g_sub_n (g_sub_n (g_sub_s g_sub_0)))) (ih _ _ _)
    · exact X_vret rfl rfl rfl rfl rfl rfl
set_option maxRecDepth 100000 in
theorem b_X8_layRelay_b2 {l : Launch} {G : gG} : ∀ (n : Nat) (h : gH) (l0 : Nat) (l1 : Int32) (l2 : Int32) (l3 : Int32), GX l G M_X8_layRelay (g_phi G g_wU (m_R M_X8_layRelay).cells (m_R M_X8_layRelay).slots) 0 0 2 [some (.ref l0), some (.int l1), some (.int l2), some (.int l3)] [] h (f_X8_layRelay_b2 n h l0 l1 l2 l3) := by
  intro n
  induction n with
  | zero => intros; exact X_none
  | succ n ih =>
    intro h l0 l1 l2 l3
    rw [f_X8_layRelay_b2]
    refine X_iload_n rfl rfl rfl ?_
    refine X_sipush (v := 928) rfl rfl (by decide) ?_
    refine X_bicmp_ge rfl rfl (fun _ => ?_) (fun _ => ?_)
    · refine X_aload_n rfl rfl rfl ?_
      refine X_iload_n rfl rfl rfl ?_
      refine X_iconst (v := 0) rfl rfl (by decide) ?_
      refine X_ast rfl rfl (fun h12 => ?_)
      refine X_iinc (v := l3 + 1) rfl rfl rfl (congrArg (fun z => l3 + z) (by decide : Int32.ofInt 1 = 1)) rfl ?_
      refine X_goto rfl rfl ?_
      exact X_sub (g_sub_s (g_sub_s (g_sub_s (g_sub_s g_sub_0)))) (ih _ _ _ _ _)
    · refine X_aload_n rfl rfl rfl ?_
      refine X_iconst (v := 2) rfl rfl (by decide) ?_
      refine X_iconst (v := -1) rfl rfl (by decide) ?_
      refine X_ast rfl rfl (fun h22 => ?_)
      refine X_aload_n rfl rfl rfl ?_
      refine X_bipush (v := 8) rfl rfl (by decide) ?_
      refine X_iload_n rfl rfl rfl ?_
      refine X_ast rfl rfl (fun h27 => ?_)
      refine X_aload_n rfl rfl rfl ?_
      refine X_bipush (v := 9) rfl rfl (by decide) ?_
      refine X_iload_n rfl rfl rfl ?_
      refine X_ast rfl rfl (fun h32 => ?_)
      refine X_iconst (v := 0) rfl rfl (by decide) ?_
      refine X_istore_n rfl rfl rfl rfl ?_
      exact X_sub (g_sub_s (g_sub_n (g_sub_n (g_sub_s g_sub_0)))) (b_X8_layRelay_b35  _ _ _ _)
set_option maxRecDepth 100000 in
theorem ct_X8_layRelay {l : Launch} {G : gG} {h : gH} {p0 : Nat} {p1 : Int32} {p2 : Int32} {h1 : gH} (e : f_X8_layRelay h p0 p1 p2 = some h1) : Ct l G M_X8_layRelay [.ref p0, .int p1, .int p2] h none h1 := by
  refine Ct_of (L := [some (.ref p0), some (.int p1), some (.int p2), none]) ok_X8_layRelay (by decide +kernel) rfl rfl rfl (ρ := g_wU) (F := f_X8_layRelay h p0 p1 p2) ?_ e rfl
  unfold f_X8_layRelay
  refine X_iconst (v := 0) rfl rfl (by decide) ?_
  refine X_istore_n rfl rfl rfl rfl ?_
  exact X_sub (g_sub_s (g_sub_s (g_sub_s (g_sub_s g_sub_0)))) (b_X8_layRelay_b2  _ _ _ _ _ _)
def f_X8_init (h : gH) (a0 : Nat) : Option gH :=
  (g_mk h (.inl (0, 500, .inl fun _ => 0))).bind fun h8 =>
  (g_put h8 a0 8 1 (.ref h.1)).bind fun h10 =>
  (g_put h10 a0 8 7 (.int (-1))).bind fun h15 =>
  (g_mk h15 (.inl (0, 928, .inl fun _ => 0))).bind fun h22 =>
  (g_put h22 a0 8 8 (.ref h15.1)).bind fun h24 =>
  (g_mk h24 (.inl (0, 928, .inl fun _ => 0))).bind fun h31 =>
  (g_put h31 a0 8 9 (.ref h24.1)).bind fun h33 =>
  (g_mk h33 (.inl (0, 928, .inl fun _ => 0))).bind fun h40 =>
  (g_put h40 a0 8 10 (.ref h33.1)).bind fun h42 =>
  (g_mkM h42 8 928).bind fun h51 =>
  (g_put h51 a0 8 11 (.ref h42.1)).bind fun h55 =>
  (g_gA h55 a0 8 8).bind fun v59 =>
  (f_X8_layRelay h55 v59 4 3).bind fun h64 =>
  some h64
set_option maxRecDepth 100000 in
theorem ct_X8_init {l : Launch} {G : gG} {h : gH} {a0 : Nat} {h1 : gH} (e : f_X8_init h a0 = some h1) : Ct l G M_X8_init [.ref a0] h none h1 := by
  refine Ct_of (L := [some (.ref a0)]) ok_X8_init (by decide +kernel) rfl rfl rfl (ρ := g_wU) (F := f_X8_init h a0) ?_ e rfl
  unfold f_X8_init
  refine X_aload_n rfl rfl rfl ?_
  refine X_objInit rfl rfl (by decide +kernel) (by decide +kernel) (by decide +kernel) rfl rfl ?_
  refine X_aload_n rfl rfl rfl ?_
  refine X_sipush (v := 500) rfl rfl (by decide) ?_
  refine X_newarrO (t := 0) (N := 500) (y := (500, .inl fun _ => 0)) (k1 := 1) (n1 := 500) rfl rfl rfl rfl (by decide +kernel) rfl (by decide) (by decide) rfl rfl rfl (fun _ => rfl) (fun h8 => ?_)
  refine X_putF rfl rfl rfl rfl rfl rfl rfl (fun h10 => ?_)
  refine X_aload_n rfl rfl rfl ?_
  refine X_iconst (v := -1) rfl rfl (by decide) ?_
  refine X_put rfl rfl rfl rfl rfl (fun h15 => ?_)
  refine X_aload_n rfl rfl rfl ?_
  refine X_sipush (v := 928) rfl rfl (by decide) ?_
  refine X_newarrO (t := 0) (N := 928) (y := (928, .inl fun _ => 0)) (k1 := 2) (n1 := 1428) rfl rfl rfl rfl (by decide +kernel) rfl (by decide) (by decide) rfl rfl rfl (fun _ => rfl) (fun h22 => ?_)
  refine X_putF rfl rfl rfl rfl rfl rfl rfl (fun h24 => ?_)
  refine X_aload_n rfl rfl rfl ?_
  refine X_sipush (v := 928) rfl rfl (by decide) ?_
  refine X_newarrO (t := 0) (N := 928) (y := (928, .inl fun _ => 0)) (k1 := 3) (n1 := 2356) rfl rfl rfl rfl (by decide +kernel) rfl (by decide) (by decide) rfl rfl rfl (fun _ => rfl) (fun h31 => ?_)
  refine X_putF rfl rfl rfl rfl rfl rfl rfl (fun h33 => ?_)
  refine X_aload_n rfl rfl rfl ?_
  refine X_sipush (v := 928) rfl rfl (by decide) ?_
  refine X_newarrO (t := 0) (N := 928) (y := (928, .inl fun _ => 0)) (k1 := 4) (n1 := 3284) rfl rfl rfl rfl (by decide +kernel) rfl (by decide) (by decide) rfl rfl rfl (fun _ => rfl) (fun h40 => ?_)
  refine X_putF rfl rfl rfl rfl rfl rfl rfl (fun h42 => ?_)
  refine X_aload_n rfl rfl rfl ?_
  refine X_bipush (v := 8) rfl rfl (by decide) ?_
  refine X_sipush (v := 928) rfl rfl (by decide) ?_
  refine X_mnaO (N := 8) (K0 := 928) (k1 := 13) (n1 := 10716) rfl rfl rfl rfl (by decide +kernel) (by decide +kernel) (by decide +kernel) (by decide) (by decide) (by decide) (by decide) rfl rfl rfl rfl rfl (fun h51 => ?_)
  refine X_putF rfl rfl rfl rfl rfl rfl rfl (fun h55 => ?_)
  refine X_aload_n rfl rfl rfl ?_
  refine X_getA rfl rfl (fun v59 => ?_)
  refine X_iconst (v := 4) rfl rfl (by decide) ?_
  refine X_iconst (v := 3) rfl rfl (by decide) ?_
  refine X_callS_UW (M' := M_X8_layRelay) (nA := 3) (As := [.ref v59, .int 4, .int 3]) (st := []) rfl rfl (by decide +kernel) rfl rfl rfl rfl rfl rfl rfl (fun _ e => ct_X8_layRelay e) (fun h64 => ?_)
  exact X_vret rfl rfl rfl rfl rfl rfl
def f_X8_thrown (h : gH) (a0 : Nat) : Option (Int32) :=
  (g_gI h a0 8 0).bind fun v1 =>
  some v1
set_option maxRecDepth 100000 in
theorem ct_X8_thrown {l : Launch} {G : gG} {h : gH} {a0 : Nat} {r : Int32} (e : f_X8_thrown h a0 = some r) : Ct l G M_X8_thrown [.ref a0] h (some (.int r)) h := by
  refine Ct_of (L := [some (.ref a0)]) ok_X8_thrown (by decide +kernel) rfl rfl rfl (ρ := (g_rI h)) (F := f_X8_thrown h a0) ?_ e rfl
  unfold f_X8_thrown
  refine X_aload_n rfl rfl rfl ?_
  refine X_getI rfl rfl (fun v1 => ?_)
  exact X_iret rfl rfl rfl rfl rfl rfl rfl
def f_X8_fails_b16 (h : gH) (l0 : Nat) : Option (Int32 × gH) :=
  (g_gI h l0 8 0).bind fun v17 =>
  (if v17 = 0 then
    some (0, h)
  else
    some (1, h))
def f_X8_fails (h : gH) (a0 : Nat) (p1 : Int32) (p2 : Int32) : Option (Int32 × gH) :=
  (if p1 = 0 then
    f_X8_fails_b16 h a0
  else
    (g_gI h a0 8 0).bind fun v5 =>
    (if v5 = 0 then
      (g_put h a0 8 0 (.int p2)).bind fun h13 =>
      f_X8_fails_b16 h13 a0
    else
      f_X8_fails_b16 h a0))
set_option maxRecDepth 100000 in
theorem b_X8_fails_b16 {l : Launch} {G : gG} (h : gH) (l0 : Nat) : GX l G M_X8_fails (g_phi G g_wI (m_R M_X8_fails).cells (m_R M_X8_fails).slots) 0 0 16 [some (.ref l0), none, none] [] h (f_X8_fails_b16 h l0) := by
  unfold f_X8_fails_b16
  refine X_aload_n rfl rfl rfl ?_
  refine X_getI rfl rfl (fun v17 => ?_)
  refine X_bif_eq rfl rfl (fun _ => ?_) (fun _ => ?_)
  · refine X_iconst (v := 0) rfl rfl (by decide) ?_
    exact X_iret rfl rfl rfl rfl rfl rfl rfl
  · refine X_iconst (v := 1) rfl rfl (by decide) ?_
    refine X_goto rfl rfl ?_
    exact X_iret rfl rfl rfl rfl rfl rfl rfl
set_option maxRecDepth 100000 in
theorem ct_X8_fails {l : Launch} {G : gG} {h : gH} {a0 : Nat} {p1 : Int32} {p2 : Int32} {r : Int32} {h1 : gH} (e : f_X8_fails h a0 p1 p2 = some (r, h1)) : Ct l G M_X8_fails [.ref a0, .int p1, .int p2] h (some (.int r)) h1 := by
  refine Ct_of (L := [some (.ref a0), some (.int p1), some (.int p2)]) ok_X8_fails (by decide +kernel) rfl rfl rfl (ρ := g_wI) (F := f_X8_fails h a0 p1 p2) ?_ e rfl
  unfold f_X8_fails
  refine X_iload_n rfl rfl rfl ?_
  refine X_bif_eq rfl rfl (fun _ => ?_) (fun _ => ?_)
  · exact X_sub (g_sub_s (g_sub_n (g_sub_n g_sub_0))) (b_X8_fails_b16  _ _)
  · refine X_aload_n rfl rfl rfl ?_
    refine X_getI rfl rfl (fun v5 => ?_)
    refine X_bif_ne rfl rfl (fun _ => ?_) (fun _ => ?_)
    · refine X_aload_n rfl rfl rfl ?_
      refine X_iload_n rfl rfl rfl ?_
      refine X_put rfl rfl rfl rfl rfl (fun h13 => ?_)
      exact X_sub (g_sub_s (g_sub_n (g_sub_n g_sub_0))) (b_X8_fails_b16  _ _)
    · exact X_sub (g_sub_s (g_sub_n (g_sub_n g_sub_0))) (b_X8_fails_b16  _ _)
def f_X8_in (p0 : Int32) (p1 : Int32) (p2 : Int32) : Int32 :=
  (if p1 ≤ p0 then
    (if p0 ≤ p2 then
      1
    else
      0)
  else
    0)
set_option maxRecDepth 100000 in
theorem ct_X8_in {l : Launch} {G : gG} {h : gH} {p0 : Int32} {p1 : Int32} {p2 : Int32} : Ct l G M_X8_in [.int p0, .int p1, .int p2] h (some (.int (f_X8_in p0 p1 p2))) h := by
  refine Ct_of (L := [some (.int p0), some (.int p1), some (.int p2)]) ok_X8_in (by decide +kernel) rfl rfl rfl (ρ := (g_rI h)) (F := some (f_X8_in p0 p1 p2)) ?_ rfl rfl
  unfold f_X8_in
  refine X_iload_n rfl rfl rfl ?_
  refine X_iload_n rfl rfl rfl ?_
  refine X_bPicmp_lt rfl rfl (fun _ => ?_) (fun _ => ?_)
  · refine X_iload_n rfl rfl rfl ?_
    refine X_iload_n rfl rfl rfl ?_
    refine X_bPicmp_gt rfl rfl (fun _ => ?_) (fun _ => ?_)
    · refine X_iconst (v := 1) rfl rfl (by decide) ?_
      refine X_goto rfl rfl ?_
      exact X_iret rfl rfl rfl rfl rfl rfl rfl
    · refine X_iconst (v := 0) rfl rfl (by decide) ?_
      exact X_iret rfl rfl rfl rfl rfl rfl rfl
  · refine X_iconst (v := 0) rfl rfl (by decide) ?_
    exact X_iret rfl rfl rfl rfl rfl rfl rfl
def f_X8_min (p0 : Int32) (p1 : Int32) : Int32 :=
  (if p0 < p1 then
    p0
  else
    p1)
set_option maxRecDepth 100000 in
theorem ct_X8_min {l : Launch} {G : gG} {h : gH} {p0 : Int32} {p1 : Int32} : Ct l G M_X8_min [.int p0, .int p1] h (some (.int (f_X8_min p0 p1))) h := by
  refine Ct_of (L := [some (.int p0), some (.int p1)]) ok_X8_min (by decide +kernel) rfl rfl rfl (ρ := (g_rI h)) (F := some (f_X8_min p0 p1)) ?_ rfl rfl
  unfold f_X8_min
  refine X_iload_n rfl rfl rfl ?_
  refine X_iload_n rfl rfl rfl ?_
  refine X_bPicmp_ge rfl rfl (fun _ => ?_) (fun _ => ?_)
  · refine X_iload_n rfl rfl rfl ?_
    refine X_goto rfl rfl ?_
    exact X_iret rfl rfl rfl rfl rfl rfl rfl
  · refine X_iload_n rfl rfl rfl ?_
    exact X_iret rfl rfl rfl rfl rfl rfl rfl
def f_X8_copy_b2 : Nat → gH → Nat → Nat → Int32 → Option gH
  | 0, _, _, _, _ => none
  | n + 1, h, l0, l1, l2 =>
    (if l2 < 928 then
      (g_ald h l0 l2).bind fun v13 =>
      (g_ast h l1 l2 v13).bind fun h14 =>
      f_X8_copy_b2  n h14 l0 l1 (l2 + 1)
    else
      some h)
def f_X8_copy (h : gH) (p0 : Nat) (p1 : Nat) : Option gH :=
  f_X8_copy_b2 g_N h p0 p1 0
set_option maxRecDepth 100000 in
theorem b_X8_copy_b2 {l : Launch} {G : gG} : ∀ (n : Nat) (h : gH) (l0 : Nat) (l1 : Nat) (l2 : Int32), GX l G M_X8_copy (g_phi G g_wU (m_R M_X8_copy).cells (m_R M_X8_copy).slots) 0 0 2 [some (.ref l0), some (.ref l1), some (.int l2)] [] h (f_X8_copy_b2 n h l0 l1 l2) := by
  intro n
  induction n with
  | zero => intros; exact X_none
  | succ n ih =>
    intro h l0 l1 l2
    rw [f_X8_copy_b2]
    refine X_iload_n rfl rfl rfl ?_
    refine X_sipush (v := 928) rfl rfl (by decide) ?_
    refine X_bicmp_ge rfl rfl (fun _ => ?_) (fun _ => ?_)
    · refine X_aload_n rfl rfl rfl ?_
      refine X_iload_n rfl rfl rfl ?_
      refine X_aload_n rfl rfl rfl ?_
      refine X_iload_n rfl rfl rfl ?_
      refine X_ald rfl rfl (fun v13 => ?_)
      refine X_ast rfl rfl (fun h14 => ?_)
      refine X_iinc (v := l2 + 1) rfl rfl rfl (congrArg (fun z => l2 + z) (by decide : Int32.ofInt 1 = 1)) rfl ?_
      refine X_goto rfl rfl ?_
      exact X_sub (g_sub_s (g_sub_s (g_sub_s g_sub_0))) (ih _ _ _ _)
    · exact X_vret rfl rfl rfl rfl rfl rfl
set_option maxRecDepth 100000 in
theorem ct_X8_copy {l : Launch} {G : gG} {h : gH} {p0 : Nat} {p1 : Nat} {h1 : gH} (e : f_X8_copy h p0 p1 = some h1) : Ct l G M_X8_copy [.ref p0, .ref p1] h none h1 := by
  refine Ct_of (L := [some (.ref p0), some (.ref p1), none]) ok_X8_copy (by decide +kernel) rfl rfl rfl (ρ := g_wU) (F := f_X8_copy h p0 p1) ?_ e rfl
  unfold f_X8_copy
  refine X_iconst (v := 0) rfl rfl (by decide) ?_
  refine X_istore_n rfl rfl rfl rfl ?_
  exact X_sub (g_sub_s (g_sub_s (g_sub_s g_sub_0))) (b_X8_copy_b2  _ _ _ _ _)
def f_X8_stationAt (p0 : Int32) : Int32 :=
  42 + (17 * p0)
set_option maxRecDepth 100000 in
theorem ct_X8_stationAt {l : Launch} {G : gG} {h : gH} {p0 : Int32} : Ct l G M_X8_stationAt [.int p0] h (some (.int (f_X8_stationAt p0))) h := by
  refine Ct_of (L := [some (.int p0)]) ok_X8_stationAt (by decide +kernel) rfl rfl rfl (ρ := (g_rI h)) (F := some (f_X8_stationAt p0)) ?_ rfl rfl
  unfold f_X8_stationAt
  refine X_bipush (v := 42) rfl rfl (by decide) ?_
  refine X_bipush (v := 17) rfl rfl (by decide) ?_
  refine X_iload_n rfl rfl rfl ?_
  refine X_imul rfl rfl ?_
  refine X_iadd rfl rfl ?_
  exact X_iret rfl rfl rfl rfl rfl rfl rfl
def f_X8_messageAt (p0 : Int32) : Int32 :=
  112 + (102 * p0)
set_option maxRecDepth 100000 in
theorem ct_X8_messageAt {l : Launch} {G : gG} {h : gH} {p0 : Int32} : Ct l G M_X8_messageAt [.int p0] h (some (.int (f_X8_messageAt p0))) h := by
  refine Ct_of (L := [some (.int p0)]) ok_X8_messageAt (by decide +kernel) rfl rfl rfl (ρ := (g_rI h)) (F := some (f_X8_messageAt p0)) ?_ rfl rfl
  unfold f_X8_messageAt
  refine X_bipush (v := 112) rfl rfl (by decide) ?_
  refine X_bipush (v := 102) rfl rfl (by decide) ?_
  refine X_iload_n rfl rfl rfl ?_
  refine X_imul rfl rfl ?_
  refine X_iadd rfl rfl ?_
  exact X_iret rfl rfl rfl rfl rfl rfl rfl
def f_X8_append_b76 (K23 : gH → Nat → Int32 → Int32 → Int32 → Int32 → Int32 → Int32 → Option (Int32 × gH)) (h : gH) (l0 : Nat) (l1 : Int32) (l2 : Int32) (l3 : Int32) (l4 : Int32) (l5 : Int32) (l6 : Int32) (s0 : Int32) : Option (Int32 × gH) :=
  (g_gA h l0 8 1).bind fun v79 =>
  (g_gI h l0 8 2).bind fun v83 =>
  (g_ast h v79 v83 ((s0 >>> ((24 - (8 * (g_rem l6 4))) &&& 31)) &&& 255)).bind fun h103 =>
  (g_gI h103 l0 8 2).bind fun v106 =>
  (g_put h103 l0 8 2 (.int (v106 + 1))).bind fun h111 =>
  K23 h111 l0 l1 l2 l3 l4 l5 (l6 + 1)
def f_X8_append_b23 : Nat → gH → Nat → Int32 → Int32 → Int32 → Int32 → Int32 → Int32 → Option (Int32 × gH)
  | 0, _, _, _, _, _, _, _, _ => none
  | n + 1, h, l0, l1, l2, l3, l4, l5, l6 =>
    (if l6 < 20 then
      (if l6 < 4 then
        f_X8_append_b76 (f_X8_append_b23  n) h l0 l1 l2 l3 l4 l5 l6 l1
      else
        (if l6 < 8 then
          f_X8_append_b76 (f_X8_append_b23  n) h l0 l1 l2 l3 l4 l5 l6 l2
        else
          (if l6 < 12 then
            f_X8_append_b76 (f_X8_append_b23  n) h l0 l1 l2 l3 l4 l5 l6 l3
          else
            (if l6 < 16 then
              f_X8_append_b76 (f_X8_append_b23  n) h l0 l1 l2 l3 l4 l5 l6 l4
            else
              f_X8_append_b76 (f_X8_append_b23  n) h l0 l1 l2 l3 l4 l5 l6 l5))))
    else
      (g_gI h l0 8 2).bind fun v121 =>
      some (v121, h))
def f_X8_append (h : gH) (a0 : Nat) (p1 : Int32) (p2 : Int32) (p3 : Int32) (p4 : Int32) (p5 : Int32) : Option (Int32 × gH) :=
  (g_put h a0 8 0 (.int 0)).bind fun h2 =>
  (g_gI h2 a0 8 2).bind fun v6 =>
  (if 500 < (v6 + 20) then
    some (-1, h2)
  else
    f_X8_append_b23 g_N h2 a0 p1 p2 p3 p4 p5 0)
set_option maxRecDepth 100000 in
theorem b_X8_append_b76 {l : Launch} {G : gG} {K23 : gH → Nat → Int32 → Int32 → Int32 → Int32 → Int32 → Int32 → Option (Int32 × gH)} (hK23 : ∀ (h : gH) (l0 : Nat) (l1 : Int32) (l2 : Int32) (l3 : Int32) (l4 : Int32) (l5 : Int32) (l6 : Int32), GX l G M_X8_append (g_phi G g_wI (m_R M_X8_append).cells (m_R M_X8_append).slots) 0 0 23 [some (.ref l0), some (.int l1), some (.int l2), some (.int l3), some (.int l4), some (.int l5), some (.int l6), none] [] h (K23 h l0 l1 l2 l3 l4 l5 l6)) (h : gH) (l0 : Nat) (l1 : Int32) (l2 : Int32) (l3 : Int32) (l4 : Int32) (l5 : Int32) (l6 : Int32) (s0 : Int32) : GX l G M_X8_append (g_phi G g_wI (m_R M_X8_append).cells (m_R M_X8_append).slots) 0 0 76 [some (.ref l0), some (.int l1), some (.int l2), some (.int l3), some (.int l4), some (.int l5), some (.int l6), none] [.int s0] h (f_X8_append_b76 K23 h l0 l1 l2 l3 l4 l5 l6 s0) := by
  unfold f_X8_append_b76
  refine X_istore rfl rfl rfl rfl ?_
  refine X_aload_n rfl rfl rfl ?_
  refine X_getA rfl rfl (fun v79 => ?_)
  refine X_aload_n rfl rfl rfl ?_
  refine X_getI rfl rfl (fun v83 => ?_)
  refine X_iload rfl rfl rfl ?_
  refine X_bipush (v := 24) rfl rfl (by decide) ?_
  refine X_bipush (v := 8) rfl rfl (by decide) ?_
  refine X_iload rfl rfl rfl ?_
  refine X_iconst (v := 4) rfl rfl (by decide) ?_
  refine X_irem (v := g_rem l6 4) rfl rfl rfl (by decide) ?_
  refine X_imul rfl rfl ?_
  refine X_isub rfl rfl ?_
  refine X_ishr rfl rfl rfl ?_
  refine X_sipush (v := 255) rfl rfl (by decide) ?_
  refine X_iand rfl rfl ?_
  refine X_ast rfl rfl (fun h103 => ?_)
  refine X_aload_n rfl rfl rfl ?_
  refine X_dup rfl rfl rfl ?_
  refine X_getI rfl rfl (fun v106 => ?_)
  refine X_iconst (v := 1) rfl rfl (by decide) ?_
  refine X_iadd rfl rfl ?_
  refine X_put rfl rfl rfl rfl rfl (fun h111 => ?_)
  refine X_iinc (v := l6 + 1) rfl rfl rfl (congrArg (fun z => l6 + z) (by decide : Int32.ofInt 1 = 1)) rfl ?_
  refine X_goto rfl rfl ?_
  exact X_sub (g_sub_s (g_sub_s (g_sub_s (g_sub_s (g_sub_s (g_sub_s (g_sub_s (g_sub_n g_sub_0)))))))) (hK23 _ _ _ _ _ _ _ _)
set_option maxRecDepth 100000 in
theorem b_X8_append_b23 {l : Launch} {G : gG} : ∀ (n : Nat) (h : gH) (l0 : Nat) (l1 : Int32) (l2 : Int32) (l3 : Int32) (l4 : Int32) (l5 : Int32) (l6 : Int32), GX l G M_X8_append (g_phi G g_wI (m_R M_X8_append).cells (m_R M_X8_append).slots) 0 0 23 [some (.ref l0), some (.int l1), some (.int l2), some (.int l3), some (.int l4), some (.int l5), some (.int l6), none] [] h (f_X8_append_b23 n h l0 l1 l2 l3 l4 l5 l6) := by
  intro n
  induction n with
  | zero => intros; exact X_none
  | succ n ih =>
    intro h l0 l1 l2 l3 l4 l5 l6
    rw [f_X8_append_b23]
    refine X_iload rfl rfl rfl ?_
    refine X_bipush (v := 20) rfl rfl (by decide) ?_
    refine X_bicmp_ge rfl rfl (fun _ => ?_) (fun _ => ?_)
    · refine X_iload rfl rfl rfl ?_
      refine X_iconst (v := 4) rfl rfl (by decide) ?_
      refine X_bicmp_ge rfl rfl (fun _ => ?_) (fun _ => ?_)
      · refine X_iload_n rfl rfl rfl ?_
        refine X_goto rfl rfl ?_
        exact X_sub (g_sub_s (g_sub_s (g_sub_s (g_sub_s (g_sub_s (g_sub_s (g_sub_s (g_sub_n g_sub_0)))))))) (b_X8_append_b76 ih _ _ _ _ _ _ _ _ _)
      · refine X_iload rfl rfl rfl ?_
        refine X_bipush (v := 8) rfl rfl (by decide) ?_
        refine X_bicmp_ge rfl rfl (fun _ => ?_) (fun _ => ?_)
        · refine X_iload_n rfl rfl rfl ?_
          refine X_goto rfl rfl ?_
          exact X_sub (g_sub_s (g_sub_s (g_sub_s (g_sub_s (g_sub_s (g_sub_s (g_sub_s (g_sub_n g_sub_0)))))))) (b_X8_append_b76 ih _ _ _ _ _ _ _ _ _)
        · refine X_iload rfl rfl rfl ?_
          refine X_bipush (v := 12) rfl rfl (by decide) ?_
          refine X_bicmp_ge rfl rfl (fun _ => ?_) (fun _ => ?_)
          · refine X_iload_n rfl rfl rfl ?_
            refine X_goto rfl rfl ?_
            exact X_sub (g_sub_s (g_sub_s (g_sub_s (g_sub_s (g_sub_s (g_sub_s (g_sub_s (g_sub_n g_sub_0)))))))) (b_X8_append_b76 ih _ _ _ _ _ _ _ _ _)
          · refine X_iload rfl rfl rfl ?_
            refine X_bipush (v := 16) rfl rfl (by decide) ?_
            refine X_bicmp_ge rfl rfl (fun _ => ?_) (fun _ => ?_)
            · refine X_iload rfl rfl rfl ?_
              refine X_goto rfl rfl ?_
              exact X_sub (g_sub_s (g_sub_s (g_sub_s (g_sub_s (g_sub_s (g_sub_s (g_sub_s (g_sub_n g_sub_0)))))))) (b_X8_append_b76 ih _ _ _ _ _ _ _ _ _)
            · refine X_iload rfl rfl rfl ?_
              exact X_sub (g_sub_s (g_sub_s (g_sub_s (g_sub_s (g_sub_s (g_sub_s (g_sub_s (g_sub_n g_sub_0)))))))) (b_X8_append_b76 ih _ _ _ _ _ _ _ _ _)
    · refine X_aload_n rfl rfl rfl ?_
      refine X_getI rfl rfl (fun v121 => ?_)
      exact X_iret rfl rfl rfl rfl rfl rfl rfl
set_option maxRecDepth 100000 in
theorem ct_X8_append {l : Launch} {G : gG} {h : gH} {a0 : Nat} {p1 : Int32} {p2 : Int32} {p3 : Int32} {p4 : Int32} {p5 : Int32} {r : Int32} {h1 : gH} (e : f_X8_append h a0 p1 p2 p3 p4 p5 = some (r, h1)) : Ct l G M_X8_append [.ref a0, .int p1, .int p2, .int p3, .int p4, .int p5] h (some (.int r)) h1 := by
  refine Ct_of (L := [some (.ref a0), some (.int p1), some (.int p2), some (.int p3), some (.int p4), some (.int p5), none, none]) ok_X8_append (by decide +kernel) rfl rfl rfl (ρ := g_wI) (F := f_X8_append h a0 p1 p2 p3 p4 p5) ?_ e rfl
  unfold f_X8_append
  refine X_aload_n rfl rfl rfl ?_
  refine X_iconst (v := 0) rfl rfl (by decide) ?_
  refine X_put rfl rfl rfl rfl rfl (fun h2 => ?_)
  refine X_aload_n rfl rfl rfl ?_
  refine X_getI rfl rfl (fun v6 => ?_)
  refine X_bipush (v := 20) rfl rfl (by decide) ?_
  refine X_iadd rfl rfl ?_
  refine X_sipush (v := 500) rfl rfl (by decide) ?_
  refine X_bicmp_le rfl rfl (fun _ => ?_) (fun _ => ?_)
  · refine X_iconst (v := -1) rfl rfl (by decide) ?_
    exact X_iret rfl rfl rfl rfl rfl rfl rfl
  · refine X_iconst (v := 0) rfl rfl (by decide) ?_
    refine X_istore rfl rfl rfl rfl ?_
    exact X_sub (g_sub_s (g_sub_s (g_sub_s (g_sub_s (g_sub_s (g_sub_s (g_sub_s (g_sub_n g_sub_0)))))))) (b_X8_append_b23  _ _ _ _ _ _ _ _ _)
def f_X8_byteAt (h : gH) (a0 : Nat) (p1 : Int32) : Option (Int32) :=
  (g_gI h a0 8 3).bind fun v2 =>
  (if p1 < v2 then
    (g_gA h a0 8 1).bind fun v9 =>
    (g_ald h v9 p1).bind fun v13 =>
    some v13
  else
    some (-1))
set_option maxRecDepth 100000 in
theorem ct_X8_byteAt {l : Launch} {G : gG} {h : gH} {a0 : Nat} {p1 : Int32} {r : Int32} (e : f_X8_byteAt h a0 p1 = some r) : Ct l G M_X8_byteAt [.ref a0, .int p1] h (some (.int r)) h := by
  refine Ct_of (L := [some (.ref a0), some (.int p1)]) ok_X8_byteAt (by decide +kernel) rfl rfl rfl (ρ := (g_rI h)) (F := f_X8_byteAt h a0 p1) ?_ e rfl
  unfold f_X8_byteAt
  refine X_iload_n rfl rfl rfl ?_
  refine X_aload_n rfl rfl rfl ?_
  refine X_getI rfl rfl (fun v2 => ?_)
  refine X_bicmp_ge rfl rfl (fun _ => ?_) (fun _ => ?_)
  · refine X_aload_n rfl rfl rfl ?_
    refine X_getA rfl rfl (fun v9 => ?_)
    refine X_iload_n rfl rfl rfl ?_
    refine X_ald rfl rfl (fun v13 => ?_)
    refine X_goto rfl rfl ?_
    exact X_iret rfl rfl rfl rfl rfl rfl rfl
  · refine X_iconst (v := -1) rfl rfl (by decide) ?_
    exact X_iret rfl rfl rfl rfl rfl rfl rfl
def f_X8_ahead_b0 : Nat → gH → Nat → Option (Int32 × gH)
  | 0, _, _ => none
  | n + 1, h, l0 =>
    (g_gI h l0 8 4).bind fun v2 =>
    bif g_is h l0 8 then
    (f_X8_byteAt h l0 v2).bind fun v5 =>
    (if v5 = 32 then
      (g_gI h l0 8 4).bind fun v15 =>
      (g_put h l0 8 4 (.int (v15 + 1))).bind fun h20 =>
      f_X8_ahead_b0  n h20 l0
    else
      (g_gI h l0 8 4).bind fun v28 =>
      bif g_is h l0 8 then
      (f_X8_byteAt h l0 v28).bind fun v31 =>
      some (v31, h)
      else none)
    else none
def f_X8_ahead (h : gH) (a0 : Nat) : Option (Int32 × gH) :=
  f_X8_ahead_b0 g_N h a0
set_option maxRecDepth 100000 in
theorem b_X8_ahead_b0 {l : Launch} {G : gG} : ∀ (n : Nat) (h : gH) (l0 : Nat), GX l G M_X8_ahead (g_phi G g_wI (m_R M_X8_ahead).cells (m_R M_X8_ahead).slots) 0 0 0 [some (.ref l0)] [] h (f_X8_ahead_b0 n h l0) := by
  intro n
  induction n with
  | zero => intros; exact X_none
  | succ n ih =>
    intro h l0
    rw [f_X8_ahead_b0]
    refine X_aload_n rfl rfl rfl ?_
    refine X_aload_n rfl rfl rfl ?_
    refine X_getI rfl rfl (fun v2 => ?_)
    refine X_callV_IR (M' := M_X8_byteAt) (nA := 1) (As := [.int v2]) (st := []) (b := l0) (ci := 8) rfl rfl (by decide +kernel) rfl rfl rfl rfl rfl rfl rfl rfl (fun _ e => ct_X8_byteAt e) (fun v5 => ?_)
    refine X_bipush (v := 32) rfl rfl (by decide) ?_
    refine X_bicmp_ne rfl rfl (fun _ => ?_) (fun _ => ?_)
    · refine X_aload_n rfl rfl rfl ?_
      refine X_dup rfl rfl rfl ?_
      refine X_getI rfl rfl (fun v15 => ?_)
      refine X_iconst (v := 1) rfl rfl (by decide) ?_
      refine X_iadd rfl rfl ?_
      refine X_put rfl rfl rfl rfl rfl (fun h20 => ?_)
      refine X_goto rfl rfl ?_
      exact X_sub (g_sub_s g_sub_0) (ih _ _)
    · refine X_aload_n rfl rfl rfl ?_
      refine X_aload_n rfl rfl rfl ?_
      refine X_getI rfl rfl (fun v28 => ?_)
      refine X_callV_IR (M' := M_X8_byteAt) (nA := 1) (As := [.int v28]) (st := []) (b := l0) (ci := 8) rfl rfl (by decide +kernel) rfl rfl rfl rfl rfl rfl rfl rfl (fun _ e => ct_X8_byteAt e) (fun v31 => ?_)
      exact X_iret rfl rfl rfl rfl rfl rfl rfl
set_option maxRecDepth 100000 in
theorem ct_X8_ahead {l : Launch} {G : gG} {h : gH} {a0 : Nat} {r : Int32} {h1 : gH} (e : f_X8_ahead h a0 = some (r, h1)) : Ct l G M_X8_ahead [.ref a0] h (some (.int r)) h1 := by
  refine Ct_of (L := [some (.ref a0)]) ok_X8_ahead (by decide +kernel) rfl rfl rfl (ρ := g_wI) (F := f_X8_ahead h a0) ?_ e rfl
  unfold f_X8_ahead
  exact X_sub (g_sub_s g_sub_0) (b_X8_ahead_b0  _ _ _)
def f_X8_isGood (h : gH) (a0 : Nat) : Option (Int32) :=
  (g_gI h a0 8 5).bind fun v1 =>
  (if v1 = 0 then
    some 1
  else
    some 0)
set_option maxRecDepth 100000 in
theorem ct_X8_isGood {l : Launch} {G : gG} {h : gH} {a0 : Nat} {r : Int32} (e : f_X8_isGood h a0 = some r) : Ct l G M_X8_isGood [.ref a0] h (some (.int r)) h := by
  refine Ct_of (L := [some (.ref a0)]) ok_X8_isGood (by decide +kernel) rfl rfl rfl (ρ := (g_rI h)) (F := f_X8_isGood h a0) ?_ e rfl
  unfold f_X8_isGood
  refine X_aload_n rfl rfl rfl ?_
  refine X_getI rfl rfl (fun v1 => ?_)
  refine X_bif_ne rfl rfl (fun _ => ?_) (fun _ => ?_)
  · refine X_iconst (v := 1) rfl rfl (by decide) ?_
    refine X_goto rfl rfl ?_
    exact X_iret rfl rfl rfl rfl rfl rfl rfl
  · refine X_iconst (v := 0) rfl rfl (by decide) ?_
    exact X_iret rfl rfl rfl rfl rfl rfl rfl
def f_X8_report (h : gH) (a0 : Nat) (p1 : Int32) (p2 : Int32) : Option gH :=
  (g_gI h a0 8 5).bind fun v1 =>
  (if v1 = 0 then
    (g_put h a0 8 5 (.int p1)).bind fun h10 =>
    (g_put h10 a0 8 6 (.int p2)).bind fun h15 =>
    some h15
  else
    some h)
set_option maxRecDepth 100000 in
theorem ct_X8_report {l : Launch} {G : gG} {h : gH} {a0 : Nat} {p1 : Int32} {p2 : Int32} {h1 : gH} (e : f_X8_report h a0 p1 p2 = some h1) : Ct l G M_X8_report [.ref a0, .int p1, .int p2] h none h1 := by
  refine Ct_of (L := [some (.ref a0), some (.int p1), some (.int p2)]) ok_X8_report (by decide +kernel) rfl rfl rfl (ρ := g_wU) (F := f_X8_report h a0 p1 p2) ?_ e rfl
  unfold f_X8_report
  refine X_aload_n rfl rfl rfl ?_
  refine X_getI rfl rfl (fun v1 => ?_)
  refine X_bif_eq rfl rfl (fun _ => ?_) (fun _ => ?_)
  · refine X_aload_n rfl rfl rfl ?_
    refine X_iload_n rfl rfl rfl ?_
    refine X_put rfl rfl rfl rfl rfl (fun h10 => ?_)
    refine X_aload_n rfl rfl rfl ?_
    refine X_iload_n rfl rfl rfl ?_
    refine X_put rfl rfl rfl rfl rfl (fun h15 => ?_)
    exact X_vret rfl rfl rfl rfl rfl rfl
  · exact X_vret rfl rfl rfl rfl rfl rfl
def f_X8_isDigit (h : gH) (p0 : Int32) : Option (Int32) :=
  (g_z (f_X8_in p0 48 57)).bind fun z => some ((f_X8_in p0 48 57))
set_option maxRecDepth 100000 in
theorem ct_X8_isDigit {l : Launch} {G : gG} {h : gH} {p0 : Int32} {r : Int32} (e : f_X8_isDigit h p0 = some r) : Ct l G M_X8_isDigit [.int p0] h (some (.int r)) h := by
  refine Ct_of (L := [some (.int p0)]) ok_X8_isDigit (by decide +kernel) rfl rfl rfl (ρ := (g_rI h)) (F := f_X8_isDigit h p0) ?_ e rfl
  unfold f_X8_isDigit
  refine X_iload_n rfl rfl rfl ?_
  refine X_bipush (v := 48) rfl rfl (by decide) ?_
  refine X_bipush (v := 57) rfl rfl (by decide) ?_
  refine X_callS_IP (v := f_X8_in p0 48 57) (M' := M_X8_in) (nA := 3) (As := [.int p0, .int 48, .int 57]) (st := []) rfl rfl (by decide +kernel) rfl rfl rfl rfl rfl rfl rfl ct_X8_in ?_
  exact X_zret rfl rfl rfl ⟨_, rfl, rfl⟩ rfl rfl
def f_X8_takeWord_b48 (h : gH) (l0 : Nat) (l1 : Nat) (l2 : Int32) : Option (Int32 × gH) :=
  (g_slen l1).bind fun v50 =>
  (if v50 ≤ l2 then
    (g_gI h l0 8 4).bind fun v58 =>
    bif g_is h l0 8 then
    (f_X8_byteAt h l0 (v58 + l2)).bind fun v63 =>
    (if (f_X8_in v63 97 122) = 0 then
      (g_gI h l0 8 4).bind fun v80 =>
      (g_put h l0 8 4 (.int (v80 + l2))).bind fun h85 =>
      some (1, h85)
    else
      some (0, h))
    else none
  else
    some (0, h))
def f_X8_takeWord_b16 : Nat → gH → Nat → Nat → Int32 → Option (Int32 × gH)
  | 0, _, _, _, _ => none
  | n + 1, h, l0, l1, l2 =>
    (g_slen l1).bind fun v18 =>
    (if l2 < v18 then
      (g_gI h l0 8 4).bind fun v26 =>
      bif g_is h l0 8 then
      (f_X8_byteAt h l0 (v26 + l2)).bind fun v31 =>
      (g_sch l1 l2).bind fun v36 =>
      (if v31 = v36 then
        f_X8_takeWord_b16  n h l0 l1 (l2 + 1)
      else
        f_X8_takeWord_b48 h l0 l1 l2)
      else none
    else
      f_X8_takeWord_b48 h l0 l1 l2)
def f_X8_takeWord (h : gH) (a0 : Nat) (p1 : Nat) : Option (Int32 × gH) :=
  bif g_is h a0 8 then
  (f_X8_isGood h a0).bind fun v1 =>
  (if v1 = 0 then
    some (0, h)
  else
    bif g_is h a0 8 then
    (f_X8_ahead h a0).bind fun y10 =>
    f_X8_takeWord_b16 g_N y10.2 a0 p1 0
    else none)
  else none
set_option maxRecDepth 100000 in
theorem b_X8_takeWord_b48 {l : Launch} {G : gG} (h : gH) (l0 : Nat) (l1 : Nat) (l2 : Int32) : GX l G M_X8_takeWord (g_phi G g_wI (m_R M_X8_takeWord).cells (m_R M_X8_takeWord).slots) 0 0 48 [some (.ref l0), some (.ref (g_aK G l1)), some (.int l2)] [] h (f_X8_takeWord_b48 h l0 l1 l2) := by
  unfold f_X8_takeWord_b48
  refine X_iload_n rfl rfl rfl ?_
  refine X_aload_n rfl rfl rfl ?_
  refine X_slen rfl rfl (by decide +kernel) rfl rfl rfl (fun v50 => ?_)
  refine X_bicmp_lt rfl rfl (fun _ => ?_) (fun _ => ?_)
  · refine X_aload_n rfl rfl rfl ?_
    refine X_aload_n rfl rfl rfl ?_
    refine X_getI rfl rfl (fun v58 => ?_)
    refine X_iload_n rfl rfl rfl ?_
    refine X_iadd rfl rfl ?_
    refine X_callV_IR (M' := M_X8_byteAt) (nA := 1) (As := [.int (v58 + l2)]) (st := []) (b := l0) (ci := 8) rfl rfl (by decide +kernel) rfl rfl rfl rfl rfl rfl rfl rfl (fun _ e => ct_X8_byteAt e) (fun v63 => ?_)
    refine X_bipush (v := 97) rfl rfl (by decide) ?_
    refine X_bipush (v := 122) rfl rfl (by decide) ?_
    refine X_callS_IP (v := f_X8_in v63 97 122) (M' := M_X8_in) (nA := 3) (As := [.int v63, .int 97, .int 122]) (st := []) rfl rfl (by decide +kernel) rfl rfl rfl rfl rfl rfl rfl ct_X8_in ?_
    refine X_bif_eq rfl rfl (fun _ => ?_) (fun _ => ?_)
    · refine X_aload_n rfl rfl rfl ?_
      refine X_dup rfl rfl rfl ?_
      refine X_getI rfl rfl (fun v80 => ?_)
      refine X_iload_n rfl rfl rfl ?_
      refine X_iadd rfl rfl ?_
      refine X_put rfl rfl rfl rfl rfl (fun h85 => ?_)
      refine X_iconst (v := 1) rfl rfl (by decide) ?_
      exact X_iret rfl rfl rfl rfl rfl rfl rfl
    · refine X_iconst (v := 0) rfl rfl (by decide) ?_
      exact X_iret rfl rfl rfl rfl rfl rfl rfl
  · refine X_iconst (v := 0) rfl rfl (by decide) ?_
    exact X_iret rfl rfl rfl rfl rfl rfl rfl
set_option maxRecDepth 100000 in
theorem b_X8_takeWord_b16 {l : Launch} {G : gG} : ∀ (n : Nat) (h : gH) (l0 : Nat) (l1 : Nat) (l2 : Int32), GX l G M_X8_takeWord (g_phi G g_wI (m_R M_X8_takeWord).cells (m_R M_X8_takeWord).slots) 0 0 16 [some (.ref l0), some (.ref (g_aK G l1)), some (.int l2)] [] h (f_X8_takeWord_b16 n h l0 l1 l2) := by
  intro n
  induction n with
  | zero => intros; exact X_none
  | succ n ih =>
    intro h l0 l1 l2
    rw [f_X8_takeWord_b16]
    refine X_iload_n rfl rfl rfl ?_
    refine X_aload_n rfl rfl rfl ?_
    refine X_slen rfl rfl (by decide +kernel) rfl rfl rfl (fun v18 => ?_)
    refine X_bicmp_ge rfl rfl (fun _ => ?_) (fun _ => ?_)
    · refine X_aload_n rfl rfl rfl ?_
      refine X_aload_n rfl rfl rfl ?_
      refine X_getI rfl rfl (fun v26 => ?_)
      refine X_iload_n rfl rfl rfl ?_
      refine X_iadd rfl rfl ?_
      refine X_callV_IR (M' := M_X8_byteAt) (nA := 1) (As := [.int (v26 + l2)]) (st := []) (b := l0) (ci := 8) rfl rfl (by decide +kernel) rfl rfl rfl rfl rfl rfl rfl rfl (fun _ e => ct_X8_byteAt e) (fun v31 => ?_)
      refine X_aload_n rfl rfl rfl ?_
      refine X_iload_n rfl rfl rfl ?_
      refine X_sch rfl rfl (by decide +kernel) rfl rfl rfl (fun v36 => ?_)
      refine X_bicmp_ne rfl rfl (fun _ => ?_) (fun _ => ?_)
      · refine X_iinc (v := l2 + 1) rfl rfl rfl (congrArg (fun z => l2 + z) (by decide : Int32.ofInt 1 = 1)) rfl ?_
        refine X_goto rfl rfl ?_
        exact X_sub (g_sub_s (g_sub_s (g_sub_s g_sub_0))) (ih _ _ _ _)
      · exact X_sub (g_sub_s (g_sub_s (g_sub_s g_sub_0))) (b_X8_takeWord_b48  _ _ _ _)
    · exact X_sub (g_sub_s (g_sub_s (g_sub_s g_sub_0))) (b_X8_takeWord_b48  _ _ _ _)
set_option maxRecDepth 100000 in
theorem ct_X8_takeWord {l : Launch} {G : gG} {h : gH} {a0 : Nat} {p1 : Nat} {r : Int32} {h1 : gH} (e : f_X8_takeWord h a0 p1 = some (r, h1)) : Ct l G M_X8_takeWord [.ref a0, .ref (g_aK G p1)] h (some (.int r)) h1 := by
  refine Ct_of (L := [some (.ref a0), some (.ref (g_aK G p1)), none]) ok_X8_takeWord (by decide +kernel) rfl rfl rfl (ρ := g_wI) (F := f_X8_takeWord h a0 p1) ?_ e rfl
  unfold f_X8_takeWord
  refine X_aload_n rfl rfl rfl ?_
  refine X_callV_IR (M' := M_X8_isGood) (nA := 0) (As := []) (st := []) (b := a0) (ci := 8) rfl rfl (by decide +kernel) rfl rfl rfl rfl rfl rfl rfl rfl (fun _ e => ct_X8_isGood e) (fun v1 => ?_)
  refine X_bif_ne rfl rfl (fun _ => ?_) (fun _ => ?_)
  · refine X_iconst (v := 0) rfl rfl (by decide) ?_
    exact X_iret rfl rfl rfl rfl rfl rfl rfl
  · refine X_aload_n rfl rfl rfl ?_
    refine X_callV_IW (M' := M_X8_ahead) (nA := 0) (As := []) (st := []) (b := a0) (ci := 8) rfl rfl (by decide +kernel) rfl rfl rfl rfl rfl rfl rfl rfl (fun _ _ e => ct_X8_ahead e) (fun y10 => ?_)
    refine X_pop rfl rfl rfl ?_
    refine X_iconst (v := 0) rfl rfl (by decide) ?_
    refine X_istore_n rfl rfl rfl rfl ?_
    exact X_sub (g_sub_s (g_sub_s (g_sub_s g_sub_0))) (b_X8_takeWord_b16  _ _ _ _ _)
def f_X8_expect (h : gH) (a0 : Nat) (p1 : Int32) : Option gH :=
  bif g_is h a0 8 then
  (f_X8_isGood h a0).bind fun v1 =>
  (if v1 = 0 then
    some h
  else
    bif g_is h a0 8 then
    (f_X8_ahead h a0).bind fun y9 =>
    (if y9.1 = p1 then
      (g_gI y9.2 a0 8 4).bind fun v18 =>
      (g_put y9.2 a0 8 4 (.int (v18 + 1))).bind fun h23 =>
      some h23
    else
      (g_gI y9.2 a0 8 4).bind fun v33 =>
      bif g_is y9.2 a0 8 then
      (f_X8_report y9.2 a0 (-2) v33).bind fun h36 =>
      some h36
      else none)
    else none)
  else none
set_option maxRecDepth 100000 in
theorem ct_X8_expect {l : Launch} {G : gG} {h : gH} {a0 : Nat} {p1 : Int32} {h1 : gH} (e : f_X8_expect h a0 p1 = some h1) : Ct l G M_X8_expect [.ref a0, .int p1] h none h1 := by
  refine Ct_of (L := [some (.ref a0), some (.int p1)]) ok_X8_expect (by decide +kernel) rfl rfl rfl (ρ := g_wU) (F := f_X8_expect h a0 p1) ?_ e rfl
  unfold f_X8_expect
  refine X_aload_n rfl rfl rfl ?_
  refine X_callV_IR (M' := M_X8_isGood) (nA := 0) (As := []) (st := []) (b := a0) (ci := 8) rfl rfl (by decide +kernel) rfl rfl rfl rfl rfl rfl rfl rfl (fun _ e => ct_X8_isGood e) (fun v1 => ?_)
  refine X_bif_ne rfl rfl (fun _ => ?_) (fun _ => ?_)
  · exact X_vret rfl rfl rfl rfl rfl rfl
  · refine X_aload_n rfl rfl rfl ?_
    refine X_callV_IW (M' := M_X8_ahead) (nA := 0) (As := []) (st := []) (b := a0) (ci := 8) rfl rfl (by decide +kernel) rfl rfl rfl rfl rfl rfl rfl rfl (fun _ _ e => ct_X8_ahead e) (fun y9 => ?_)
    refine X_iload_n rfl rfl rfl ?_
    refine X_bicmp_ne rfl rfl (fun _ => ?_) (fun _ => ?_)
    · refine X_aload_n rfl rfl rfl ?_
      refine X_dup rfl rfl rfl ?_
      refine X_getI rfl rfl (fun v18 => ?_)
      refine X_iconst (v := 1) rfl rfl (by decide) ?_
      refine X_iadd rfl rfl ?_
      refine X_put rfl rfl rfl rfl rfl (fun h23 => ?_)
      refine X_goto rfl rfl ?_
      exact X_vret rfl rfl rfl rfl rfl rfl
    · refine X_aload_n rfl rfl rfl ?_
      refine X_bipush (v := -2) rfl rfl (by decide) ?_
      refine X_aload_n rfl rfl rfl ?_
      refine X_getI rfl rfl (fun v33 => ?_)
      refine X_callV_UW (M' := M_X8_report) (nA := 2) (As := [.int (-2), .int v33]) (st := []) (b := a0) (ci := 8) rfl rfl (by decide +kernel) rfl rfl rfl rfl rfl rfl rfl rfl (fun _ e => ct_X8_report e) (fun h36 => ?_)
      exact X_vret rfl rfl rfl rfl rfl rfl
def f_X8_number_b109 (h : gH) (l0 : Nat) (l3 : Int32) : Option (Int32 × gH) :=
  bif g_is h l0 8 then
  (f_X8_isGood h l0).bind fun v110 =>
  (if v110 = 0 then
    some (0, h)
  else
    some (l3, h))
  else none
def f_X8_number_b41 : Nat → gH → Nat → Int32 → Int32 → Int32 → Option (Int32 × gH)
  | 0, _, _, _, _, _ => none
  | n + 1, h, l0, l1, l2, l3 =>
    (g_gI h l0 8 4).bind fun v43 =>
    bif g_is h l0 8 then
    (f_X8_byteAt h l0 v43).bind fun v46 =>
    (f_X8_isDigit h v46).bind fun v49 =>
    (if v49 = 0 then
      (if (f_X8_in l3 l1 l2) = 0 then
        (g_gI h l0 8 13).bind fun v103 =>
        bif g_is h l0 8 then
        (f_X8_report h l0 (-3) v103).bind fun h106 =>
        f_X8_number_b109 h106 l0 l3
        else none
      else
        f_X8_number_b109 h l0 l3)
    else
      (g_gI h l0 8 4).bind fun v63 =>
      bif g_is h l0 8 then
      (f_X8_byteAt h l0 v63).bind fun v66 =>
      (g_gI h l0 8 4).bind fun v79 =>
      (g_put h l0 8 4 (.int (v79 + 1))).bind fun h84 =>
      f_X8_number_b41  n h84 l0 l1 l2 (f_X8_min 100000000 (((10 * l3) + v66) - 48))
      else none)
    else none
def f_X8_number (h : gH) (a0 : Nat) (p1 : Int32) (p2 : Int32) : Option (Int32 × gH) :=
  bif g_is h a0 8 then
  (f_X8_isGood h a0).bind fun v1 =>
  (if v1 = 0 then
    some (0, h)
  else
    bif g_is h a0 8 then
    (f_X8_ahead h a0).bind fun y10 =>
    (f_X8_isDigit y10.2 y10.1).bind fun v13 =>
    (if v13 = 0 then
      (g_gI y10.2 a0 8 4).bind fun v23 =>
      bif g_is y10.2 a0 8 then
      (f_X8_report y10.2 a0 (-2) v23).bind fun h26 =>
      some (0, h26)
      else none
    else
      (g_gI y10.2 a0 8 4).bind fun v33 =>
      (g_put y10.2 a0 8 13 (.int v33)).bind fun h36 =>
      f_X8_number_b41 g_N h36 a0 p1 p2 0)
    else none)
  else none
set_option maxRecDepth 100000 in
theorem b_X8_number_b109 {l : Launch} {G : gG} (h : gH) (l0 : Nat) (l3 : Int32) : GX l G M_X8_number (g_phi G g_wI (m_R M_X8_number).cells (m_R M_X8_number).slots) 0 0 109 [some (.ref l0), none, none, some (.int l3)] [] h (f_X8_number_b109 h l0 l3) := by
  unfold f_X8_number_b109
  refine X_aload_n rfl rfl rfl ?_
  refine X_callV_IR (M' := M_X8_isGood) (nA := 0) (As := []) (st := []) (b := l0) (ci := 8) rfl rfl (by decide +kernel) rfl rfl rfl rfl rfl rfl rfl rfl (fun _ e => ct_X8_isGood e) (fun v110 => ?_)
  refine X_bif_eq rfl rfl (fun _ => ?_) (fun _ => ?_)
  · refine X_iconst (v := 0) rfl rfl (by decide) ?_
    exact X_iret rfl rfl rfl rfl rfl rfl rfl
  · refine X_iload_n rfl rfl rfl ?_
    refine X_goto rfl rfl ?_
    exact X_iret rfl rfl rfl rfl rfl rfl rfl
set_option maxRecDepth 100000 in
theorem b_X8_number_b41 {l : Launch} {G : gG} : ∀ (n : Nat) (h : gH) (l0 : Nat) (l1 : Int32) (l2 : Int32) (l3 : Int32), GX l G M_X8_number (g_phi G g_wI (m_R M_X8_number).cells (m_R M_X8_number).slots) 0 0 41 [some (.ref l0), some (.int l1), some (.int l2), some (.int l3)] [] h (f_X8_number_b41 n h l0 l1 l2 l3) := by
  intro n
  induction n with
  | zero => intros; exact X_none
  | succ n ih =>
    intro h l0 l1 l2 l3
    rw [f_X8_number_b41]
    refine X_aload_n rfl rfl rfl ?_
    refine X_aload_n rfl rfl rfl ?_
    refine X_getI rfl rfl (fun v43 => ?_)
    refine X_callV_IR (M' := M_X8_byteAt) (nA := 1) (As := [.int v43]) (st := []) (b := l0) (ci := 8) rfl rfl (by decide +kernel) rfl rfl rfl rfl rfl rfl rfl rfl (fun _ e => ct_X8_byteAt e) (fun v46 => ?_)
    refine X_callS_IR (M' := M_X8_isDigit) (nA := 1) (As := [.int v46]) (st := []) rfl rfl (by decide +kernel) rfl rfl rfl rfl rfl rfl rfl (fun _ e => ct_X8_isDigit e) (fun v49 => ?_)
    refine X_bif_eq rfl rfl (fun _ => ?_) (fun _ => ?_)
    · refine X_iload_n rfl rfl rfl ?_
      refine X_iload_n rfl rfl rfl ?_
      refine X_iload_n rfl rfl rfl ?_
      refine X_callS_IP (v := f_X8_in l3 l1 l2) (M' := M_X8_in) (nA := 3) (As := [.int l3, .int l1, .int l2]) (st := []) rfl rfl (by decide +kernel) rfl rfl rfl rfl rfl rfl rfl ct_X8_in ?_
      refine X_bif_ne rfl rfl (fun _ => ?_) (fun _ => ?_)
      · refine X_aload_n rfl rfl rfl ?_
        refine X_bipush (v := -3) rfl rfl (by decide) ?_
        refine X_aload_n rfl rfl rfl ?_
        refine X_getI rfl rfl (fun v103 => ?_)
        refine X_callV_UW (M' := M_X8_report) (nA := 2) (As := [.int (-3), .int v103]) (st := []) (b := l0) (ci := 8) rfl rfl (by decide +kernel) rfl rfl rfl rfl rfl rfl rfl rfl (fun _ e => ct_X8_report e) (fun h106 => ?_)
        exact X_sub (g_sub_s (g_sub_n (g_sub_n (g_sub_s g_sub_0)))) (b_X8_number_b109  _ _ _)
      · exact X_sub (g_sub_s (g_sub_n (g_sub_n (g_sub_s g_sub_0)))) (b_X8_number_b109  _ _ _)
    · refine X_ldc (v := 100000000) rfl rfl (by decide +kernel) ?_
      refine X_bipush (v := 10) rfl rfl (by decide) ?_
      refine X_iload_n rfl rfl rfl ?_
      refine X_imul rfl rfl ?_
      refine X_aload_n rfl rfl rfl ?_
      refine X_aload_n rfl rfl rfl ?_
      refine X_getI rfl rfl (fun v63 => ?_)
      refine X_callV_IR (M' := M_X8_byteAt) (nA := 1) (As := [.int v63]) (st := [.int (10 * l3), .int 100000000]) (b := l0) (ci := 8) rfl rfl (by decide +kernel) rfl rfl rfl rfl rfl rfl rfl rfl (fun _ e => ct_X8_byteAt e) (fun v66 => ?_)
      refine X_iadd rfl rfl ?_
      refine X_bipush (v := 48) rfl rfl (by decide) ?_
      refine X_isub rfl rfl ?_
      refine X_callS_IP (v := f_X8_min 100000000 (((10 * l3) + v66) - 48)) (M' := M_X8_min) (nA := 2) (As := [.int 100000000, .int (((10 * l3) + v66) - 48)]) (st := []) rfl rfl (by decide +kernel) rfl rfl rfl rfl rfl rfl rfl ct_X8_min ?_
      refine X_istore_n rfl rfl rfl rfl ?_
      refine X_aload_n rfl rfl rfl ?_
      refine X_dup rfl rfl rfl ?_
      refine X_getI rfl rfl (fun v79 => ?_)
      refine X_iconst (v := 1) rfl rfl (by decide) ?_
      refine X_iadd rfl rfl ?_
      refine X_put rfl rfl rfl rfl rfl (fun h84 => ?_)
      refine X_goto rfl rfl ?_
      exact X_sub (g_sub_s (g_sub_s (g_sub_s (g_sub_s g_sub_0)))) (ih _ _ _ _ _)
set_option maxRecDepth 100000 in
theorem ct_X8_number {l : Launch} {G : gG} {h : gH} {a0 : Nat} {p1 : Int32} {p2 : Int32} {r : Int32} {h1 : gH} (e : f_X8_number h a0 p1 p2 = some (r, h1)) : Ct l G M_X8_number [.ref a0, .int p1, .int p2] h (some (.int r)) h1 := by
  refine Ct_of (L := [some (.ref a0), some (.int p1), some (.int p2), none]) ok_X8_number (by decide +kernel) rfl rfl rfl (ρ := g_wI) (F := f_X8_number h a0 p1 p2) ?_ e rfl
  unfold f_X8_number
  refine X_aload_n rfl rfl rfl ?_
  refine X_callV_IR (M' := M_X8_isGood) (nA := 0) (As := []) (st := []) (b := a0) (ci := 8) rfl rfl (by decide +kernel) rfl rfl rfl rfl rfl rfl rfl rfl (fun _ e => ct_X8_isGood e) (fun v1 => ?_)
  refine X_bif_ne rfl rfl (fun _ => ?_) (fun _ => ?_)
  · refine X_iconst (v := 0) rfl rfl (by decide) ?_
    exact X_iret rfl rfl rfl rfl rfl rfl rfl
  · refine X_aload_n rfl rfl rfl ?_
    refine X_callV_IW (M' := M_X8_ahead) (nA := 0) (As := []) (st := []) (b := a0) (ci := 8) rfl rfl (by decide +kernel) rfl rfl rfl rfl rfl rfl rfl rfl (fun _ _ e => ct_X8_ahead e) (fun y10 => ?_)
    refine X_callS_IR (M' := M_X8_isDigit) (nA := 1) (As := [.int y10.1]) (st := []) rfl rfl (by decide +kernel) rfl rfl rfl rfl rfl rfl rfl (fun _ e => ct_X8_isDigit e) (fun v13 => ?_)
    refine X_bif_ne rfl rfl (fun _ => ?_) (fun _ => ?_)
    · refine X_aload_n rfl rfl rfl ?_
      refine X_bipush (v := -2) rfl rfl (by decide) ?_
      refine X_aload_n rfl rfl rfl ?_
      refine X_getI rfl rfl (fun v23 => ?_)
      refine X_callV_UW (M' := M_X8_report) (nA := 2) (As := [.int (-2), .int v23]) (st := []) (b := a0) (ci := 8) rfl rfl (by decide +kernel) rfl rfl rfl rfl rfl rfl rfl rfl (fun _ e => ct_X8_report e) (fun h26 => ?_)
      refine X_iconst (v := 0) rfl rfl (by decide) ?_
      exact X_iret rfl rfl rfl rfl rfl rfl rfl
    · refine X_aload_n rfl rfl rfl ?_
      refine X_aload_n rfl rfl rfl ?_
      refine X_getI rfl rfl (fun v33 => ?_)
      refine X_put rfl rfl rfl rfl rfl (fun h36 => ?_)
      refine X_iconst (v := 0) rfl rfl (by decide) ?_
      refine X_istore_n rfl rfl rfl rfl ?_
      exact X_sub (g_sub_s (g_sub_s (g_sub_s (g_sub_s g_sub_0)))) (b_X8_number_b41  _ _ _ _ _ _)
def f_X8_readChannel_b36 (h : gH) (l0 : Nat) (l1 : Int32) : Option gH :=
  bif g_is h l0 8 then
  (f_X8_number h l0 0 9).bind fun y40 =>
  bif g_is y40.2 l0 8 then
  (f_X8_number y40.2 l0 0 23).bind fun y48 =>
  bif g_is y48.2 l0 8 then
  (f_X8_number y48.2 l0 0 23).bind fun y56 =>
  bif g_is y56.2 l0 8 then
  (f_X8_isGood y56.2 l0).bind fun v62 =>
  (if v62 = 0 then
    some y56.2
  else
    (g_gI y56.2 l0 8 14).bind fun v71 =>
    (g_put y56.2 l0 8 14 (.int (v71 ||| (1 <<< (l1 &&& 31))))).bind fun h78 =>
    (g_gA h78 l0 8 9).bind fun v82 =>
    (g_ast h78 v82 ((f_X8_channelAt l1) + 0) y40.1).bind fun h92 =>
    (g_gA h92 l0 8 9).bind fun v94 =>
    (g_ast h92 v94 ((f_X8_channelAt l1) + 1) y48.1).bind fun h104 =>
    (g_gA h104 l0 8 9).bind fun v106 =>
    (g_ast h104 v106 ((f_X8_channelAt l1) + 2) y56.1).bind fun h117 =>
    some h117)
  else none
  else none
  else none
  else none
def f_X8_readChannel (h : gH) (a0 : Nat) : Option gH :=
  bif g_is h a0 8 then
  (f_X8_number h a0 0 1).bind fun y3 =>
  bif g_is y3.2 a0 8 then
  (f_X8_isGood y3.2 a0).bind fun v8 =>
  (if v8 = 0 then
    f_X8_readChannel_b36 y3.2 a0 y3.1
  else
    (g_gI y3.2 a0 8 14).bind fun v15 =>
    (if ((v15 >>> (y3.1 &&& 31)) &&& 1) = 1 then
      (g_gI y3.2 a0 8 13).bind fun v30 =>
      bif g_is y3.2 a0 8 then
      (f_X8_report y3.2 a0 (-4) v30).bind fun h33 =>
      f_X8_readChannel_b36 h33 a0 y3.1
      else none
    else
      f_X8_readChannel_b36 y3.2 a0 y3.1))
  else none
  else none
set_option maxRecDepth 100000 in
theorem b_X8_readChannel_b36 {l : Launch} {G : gG} (h : gH) (l0 : Nat) (l1 : Int32) : GX l G M_X8_readChannel (g_phi G g_wU (m_R M_X8_readChannel).cells (m_R M_X8_readChannel).slots) 0 0 36 [some (.ref l0), some (.int l1), none, none, none] [] h (f_X8_readChannel_b36 h l0 l1) := by
  unfold f_X8_readChannel_b36
  refine X_aload_n rfl rfl rfl ?_
  refine X_iconst (v := 0) rfl rfl (by decide) ?_
  refine X_bipush (v := 9) rfl rfl (by decide) ?_
  refine X_callV_IW (M' := M_X8_number) (nA := 2) (As := [.int 0, .int 9]) (st := []) (b := l0) (ci := 8) rfl rfl (by decide +kernel) rfl rfl rfl rfl rfl rfl rfl rfl (fun _ _ e => ct_X8_number e) (fun y40 => ?_)
  refine X_istore_n rfl rfl rfl rfl ?_
  refine X_aload_n rfl rfl rfl ?_
  refine X_iconst (v := 0) rfl rfl (by decide) ?_
  refine X_bipush (v := 23) rfl rfl (by decide) ?_
  refine X_callV_IW (M' := M_X8_number) (nA := 2) (As := [.int 0, .int 23]) (st := []) (b := l0) (ci := 8) rfl rfl (by decide +kernel) rfl rfl rfl rfl rfl rfl rfl rfl (fun _ _ e => ct_X8_number e) (fun y48 => ?_)
  refine X_istore_n rfl rfl rfl rfl ?_
  refine X_aload_n rfl rfl rfl ?_
  refine X_iconst (v := 0) rfl rfl (by decide) ?_
  refine X_bipush (v := 23) rfl rfl (by decide) ?_
  refine X_callV_IW (M' := M_X8_number) (nA := 2) (As := [.int 0, .int 23]) (st := []) (b := l0) (ci := 8) rfl rfl (by decide +kernel) rfl rfl rfl rfl rfl rfl rfl rfl (fun _ _ e => ct_X8_number e) (fun y56 => ?_)
  refine X_istore rfl rfl rfl rfl ?_
  refine X_aload_n rfl rfl rfl ?_
  refine X_callV_IR (M' := M_X8_isGood) (nA := 0) (As := []) (st := []) (b := l0) (ci := 8) rfl rfl (by decide +kernel) rfl rfl rfl rfl rfl rfl rfl rfl (fun _ e => ct_X8_isGood e) (fun v62 => ?_)
  refine X_bif_ne rfl rfl (fun _ => ?_) (fun _ => ?_)
  · exact X_vret rfl rfl rfl rfl rfl rfl
  · refine X_aload_n rfl rfl rfl ?_
    refine X_dup rfl rfl rfl ?_
    refine X_getI rfl rfl (fun v71 => ?_)
    refine X_iconst (v := 1) rfl rfl (by decide) ?_
    refine X_iload_n rfl rfl rfl ?_
    refine X_ishl rfl rfl rfl ?_
    refine X_ior rfl rfl ?_
    refine X_put rfl rfl rfl rfl rfl (fun h78 => ?_)
    refine X_aload_n rfl rfl rfl ?_
    refine X_getA rfl rfl (fun v82 => ?_)
    refine X_iload_n rfl rfl rfl ?_
    refine X_callS_IP (v := f_X8_channelAt l1) (M' := M_X8_channelAt) (nA := 1) (As := [.int l1]) (st := [.ref v82]) rfl rfl (by decide +kernel) rfl rfl rfl rfl rfl rfl rfl ct_X8_channelAt ?_
    refine X_iconst (v := 0) rfl rfl (by decide) ?_
    refine X_iadd rfl rfl ?_
    refine X_iload_n rfl rfl rfl ?_
    refine X_ast rfl rfl (fun h92 => ?_)
    refine X_aload_n rfl rfl rfl ?_
    refine X_getA rfl rfl (fun v94 => ?_)
    refine X_iload_n rfl rfl rfl ?_
    refine X_callS_IP (v := f_X8_channelAt l1) (M' := M_X8_channelAt) (nA := 1) (As := [.int l1]) (st := [.ref v94]) rfl rfl (by decide +kernel) rfl rfl rfl rfl rfl rfl rfl ct_X8_channelAt ?_
    refine X_iconst (v := 1) rfl rfl (by decide) ?_
    refine X_iadd rfl rfl ?_
    refine X_iload_n rfl rfl rfl ?_
    refine X_ast rfl rfl (fun h104 => ?_)
    refine X_aload_n rfl rfl rfl ?_
    refine X_getA rfl rfl (fun v106 => ?_)
    refine X_iload_n rfl rfl rfl ?_
    refine X_callS_IP (v := f_X8_channelAt l1) (M' := M_X8_channelAt) (nA := 1) (As := [.int l1]) (st := [.ref v106]) rfl rfl (by decide +kernel) rfl rfl rfl rfl rfl rfl rfl ct_X8_channelAt ?_
    refine X_iconst (v := 2) rfl rfl (by decide) ?_
    refine X_iadd rfl rfl ?_
    refine X_iload rfl rfl rfl ?_
    refine X_ast rfl rfl (fun h117 => ?_)
    exact X_vret rfl rfl rfl rfl rfl rfl
set_option maxRecDepth 100000 in
theorem ct_X8_readChannel {l : Launch} {G : gG} {h : gH} {a0 : Nat} {h1 : gH} (e : f_X8_readChannel h a0 = some h1) : Ct l G M_X8_readChannel [.ref a0] h none h1 := by
  refine Ct_of (L := [some (.ref a0), none, none, none, none]) ok_X8_readChannel (by decide +kernel) rfl rfl rfl (ρ := g_wU) (F := f_X8_readChannel h a0) ?_ e rfl
  unfold f_X8_readChannel
  refine X_aload_n rfl rfl rfl ?_
  refine X_iconst (v := 0) rfl rfl (by decide) ?_
  refine X_iconst (v := 1) rfl rfl (by decide) ?_
  refine X_callV_IW (M' := M_X8_number) (nA := 2) (As := [.int 0, .int 1]) (st := []) (b := a0) (ci := 8) rfl rfl (by decide +kernel) rfl rfl rfl rfl rfl rfl rfl rfl (fun _ _ e => ct_X8_number e) (fun y3 => ?_)
  refine X_istore_n rfl rfl rfl rfl ?_
  refine X_aload_n rfl rfl rfl ?_
  refine X_callV_IR (M' := M_X8_isGood) (nA := 0) (As := []) (st := []) (b := a0) (ci := 8) rfl rfl (by decide +kernel) rfl rfl rfl rfl rfl rfl rfl rfl (fun _ e => ct_X8_isGood e) (fun v8 => ?_)
  refine X_bif_eq rfl rfl (fun _ => ?_) (fun _ => ?_)
  · exact X_sub (g_sub_s (g_sub_s (g_sub_n (g_sub_n (g_sub_n g_sub_0))))) (b_X8_readChannel_b36  _ _ _)
  · refine X_aload_n rfl rfl rfl ?_
    refine X_getI rfl rfl (fun v15 => ?_)
    refine X_iload_n rfl rfl rfl ?_
    refine X_ishr rfl rfl rfl ?_
    refine X_iconst (v := 1) rfl rfl (by decide) ?_
    refine X_iand rfl rfl ?_
    refine X_iconst (v := 1) rfl rfl (by decide) ?_
    refine X_bicmp_ne rfl rfl (fun _ => ?_) (fun _ => ?_)
    · refine X_aload_n rfl rfl rfl ?_
      refine X_bipush (v := -4) rfl rfl (by decide) ?_
      refine X_aload_n rfl rfl rfl ?_
      refine X_getI rfl rfl (fun v30 => ?_)
      refine X_callV_UW (M' := M_X8_report) (nA := 2) (As := [.int (-4), .int v30]) (st := []) (b := a0) (ci := 8) rfl rfl (by decide +kernel) rfl rfl rfl rfl rfl rfl rfl rfl (fun _ e => ct_X8_report e) (fun h33 => ?_)
      exact X_sub (g_sub_s (g_sub_s (g_sub_n (g_sub_n (g_sub_n g_sub_0))))) (b_X8_readChannel_b36  _ _ _)
    · exact X_sub (g_sub_s (g_sub_s (g_sub_n (g_sub_n (g_sub_n g_sub_0))))) (b_X8_readChannel_b36  _ _ _)
def f_X8_keeperAt_b8 (h : gH) : Nat → Nat → Int32 → Int32 → Int32 → Option (Int32)
  | 0, _, _, _, _ => none
  | n + 1, l0, l2, l3, l4 =>
    (g_ald h l0 (l3 + 0)).bind fun v14 =>
    (if l4 < v14 then
      (g_ald h l0 ((l3 + 1) + (2 * l4))).bind fun v27 =>
      (if v27 = l2 then
        some l4
      else
        f_X8_keeperAt_b8 h n l0 l2 l3 (l4 + 1))
    else
      some (-1))
def f_X8_keeperAt (h : gH) (p0 : Nat) (p1 : Int32) (p2 : Int32) : Option (Int32) :=
  f_X8_keeperAt_b8 h g_N p0 p2 (f_X8_stationAt p1) 0
set_option maxRecDepth 100000 in
theorem b_X8_keeperAt_b8 {l : Launch} {G : gG} {h : gH} : ∀ (n : Nat) (l0 : Nat) (l2 : Int32) (l3 : Int32) (l4 : Int32), GX l G M_X8_keeperAt (g_phi G (g_rI h) (m_R M_X8_keeperAt).cells (m_R M_X8_keeperAt).slots) 0 0 8 [some (.ref l0), none, some (.int l2), some (.int l3), some (.int l4)] [] h (f_X8_keeperAt_b8 h n l0 l2 l3 l4) := by
  intro n
  induction n with
  | zero => intros; exact X_none
  | succ n ih =>
    intro l0 l2 l3 l4
    rw [f_X8_keeperAt_b8]
    refine X_iload rfl rfl rfl ?_
    refine X_aload_n rfl rfl rfl ?_
    refine X_iload_n rfl rfl rfl ?_
    refine X_iconst (v := 0) rfl rfl (by decide) ?_
    refine X_iadd rfl rfl ?_
    refine X_ald rfl rfl (fun v14 => ?_)
    refine X_bicmp_ge rfl rfl (fun _ => ?_) (fun _ => ?_)
    · refine X_aload_n rfl rfl rfl ?_
      refine X_iload_n rfl rfl rfl ?_
      refine X_iconst (v := 1) rfl rfl (by decide) ?_
      refine X_iadd rfl rfl ?_
      refine X_iconst (v := 2) rfl rfl (by decide) ?_
      refine X_iload rfl rfl rfl ?_
      refine X_imul rfl rfl ?_
      refine X_iadd rfl rfl ?_
      refine X_ald rfl rfl (fun v27 => ?_)
      refine X_iload_n rfl rfl rfl ?_
      refine X_bicmp_ne rfl rfl (fun _ => ?_) (fun _ => ?_)
      · refine X_iload rfl rfl rfl ?_
        exact X_iret rfl rfl rfl rfl rfl rfl rfl
      · refine X_iinc (v := l4 + 1) rfl rfl rfl (congrArg (fun z => l4 + z) (by decide : Int32.ofInt 1 = 1)) rfl ?_
        refine X_goto rfl rfl ?_
        exact X_sub (g_sub_s (g_sub_n (g_sub_s (g_sub_s (g_sub_s g_sub_0))))) (ih _ _ _ _)
    · refine X_iconst (v := -1) rfl rfl (by decide) ?_
      exact X_iret rfl rfl rfl rfl rfl rfl rfl
set_option maxRecDepth 100000 in
theorem ct_X8_keeperAt {l : Launch} {G : gG} {h : gH} {p0 : Nat} {p1 : Int32} {p2 : Int32} {r : Int32} (e : f_X8_keeperAt h p0 p1 p2 = some r) : Ct l G M_X8_keeperAt [.ref p0, .int p1, .int p2] h (some (.int r)) h := by
  refine Ct_of (L := [some (.ref p0), some (.int p1), some (.int p2), none, none]) ok_X8_keeperAt (by decide +kernel) rfl rfl rfl (ρ := (g_rI h)) (F := f_X8_keeperAt h p0 p1 p2) ?_ e rfl
  unfold f_X8_keeperAt
  refine X_iload_n rfl rfl rfl ?_
  refine X_callS_IP (v := f_X8_stationAt p1) (M' := M_X8_stationAt) (nA := 1) (As := [.int p1]) (st := []) rfl rfl (by decide +kernel) rfl rfl rfl rfl rfl rfl rfl ct_X8_stationAt ?_
  refine X_istore_n rfl rfl rfl rfl ?_
  refine X_iconst (v := 0) rfl rfl (by decide) ?_
  refine X_istore rfl rfl rfl rfl ?_
  exact X_sub (g_sub_s (g_sub_n (g_sub_s (g_sub_s (g_sub_s g_sub_0))))) (b_X8_keeperAt_b8  _ _ _ _ _)
def f_X8_addKeeper (h : gH) (p0 : Nat) (p1 : Int32) (p2 : Int32) (p3 : Int32) : Option gH :=
  (g_ald h p0 ((f_X8_stationAt p1) + 0)).bind fun v11 =>
  (g_ast h p0 (((f_X8_stationAt p1) + 1) + (2 * v11)) p2).bind fun h25 =>
  (g_ast h25 p0 ((((f_X8_stationAt p1) + 1) + (2 * v11)) + 1) p3).bind fun h39 =>
  (g_ald h39 p0 ((f_X8_stationAt p1) + 0)).bind fun v46 =>
  (g_ast h39 p0 ((f_X8_stationAt p1) + 0) (v46 + 1)).bind fun h49 =>
  some h49
set_option maxRecDepth 100000 in
theorem ct_X8_addKeeper {l : Launch} {G : gG} {h : gH} {p0 : Nat} {p1 : Int32} {p2 : Int32} {p3 : Int32} {h1 : gH} (e : f_X8_addKeeper h p0 p1 p2 p3 = some h1) : Ct l G M_X8_addKeeper [.ref p0, .int p1, .int p2, .int p3] h none h1 := by
  refine Ct_of (L := [some (.ref p0), some (.int p1), some (.int p2), some (.int p3), none, none]) ok_X8_addKeeper (by decide +kernel) rfl rfl rfl (ρ := g_wU) (F := f_X8_addKeeper h p0 p1 p2 p3) ?_ e rfl
  unfold f_X8_addKeeper
  refine X_iload_n rfl rfl rfl ?_
  refine X_callS_IP (v := f_X8_stationAt p1) (M' := M_X8_stationAt) (nA := 1) (As := [.int p1]) (st := []) rfl rfl (by decide +kernel) rfl rfl rfl rfl rfl rfl rfl ct_X8_stationAt ?_
  refine X_istore rfl rfl rfl rfl ?_
  refine X_aload_n rfl rfl rfl ?_
  refine X_iload rfl rfl rfl ?_
  refine X_iconst (v := 0) rfl rfl (by decide) ?_
  refine X_iadd rfl rfl ?_
  refine X_ald rfl rfl (fun v11 => ?_)
  refine X_istore rfl rfl rfl rfl ?_
  refine X_aload_n rfl rfl rfl ?_
  refine X_iload rfl rfl rfl ?_
  refine X_iconst (v := 1) rfl rfl (by decide) ?_
  refine X_iadd rfl rfl ?_
  refine X_iconst (v := 2) rfl rfl (by decide) ?_
  refine X_iload rfl rfl rfl ?_
  refine X_imul rfl rfl ?_
  refine X_iadd rfl rfl ?_
  refine X_iload_n rfl rfl rfl ?_
  refine X_ast rfl rfl (fun h25 => ?_)
  refine X_aload_n rfl rfl rfl ?_
  refine X_iload rfl rfl rfl ?_
  refine X_iconst (v := 1) rfl rfl (by decide) ?_
  refine X_iadd rfl rfl ?_
  refine X_iconst (v := 2) rfl rfl (by decide) ?_
  refine X_iload rfl rfl rfl ?_
  refine X_imul rfl rfl ?_
  refine X_iadd rfl rfl ?_
  refine X_iconst (v := 1) rfl rfl (by decide) ?_
  refine X_iadd rfl rfl ?_
  refine X_iload_n rfl rfl rfl ?_
  refine X_ast rfl rfl (fun h39 => ?_)
  refine X_aload_n rfl rfl rfl ?_
  refine X_iload rfl rfl rfl ?_
  refine X_iconst (v := 0) rfl rfl (by decide) ?_
  refine X_iadd rfl rfl ?_
  refine X_dup2 rfl rfl rfl rfl ?_
  refine X_ald rfl rfl (fun v46 => ?_)
  refine X_iconst (v := 1) rfl rfl (by decide) ?_
  refine X_iadd rfl rfl ?_
  refine X_ast rfl rfl (fun h49 => ?_)
  exact X_vret rfl rfl rfl rfl rfl rfl
def f_X8_readKeeper_b79 (h : gH) (l0 : Nat) (l1 : Int32) (l2 : Int32) : Option gH :=
  bif g_is h l0 8 then
  (f_X8_number h l0 0 25).bind fun y83 =>
  bif g_is y83.2 l0 8 then
  (f_X8_isGood y83.2 l0).bind fun v88 =>
  (if v88 = 0 then
    some y83.2
  else
    (g_gA y83.2 l0 8 9).bind fun v95 =>
    (f_X8_addKeeper y83.2 v95 l1 l2 y83.1).bind fun h101 =>
    some h101)
  else none
  else none
def f_X8_readKeeper_b40 (h : gH) (l0 : Nat) (l1 : Int32) : Option gH :=
  bif g_is h l0 8 then
  (f_X8_number h l0 0 9999).bind fun y45 =>
  bif g_is y45.2 l0 8 then
  (f_X8_isGood y45.2 l0).bind fun v50 =>
  (if v50 = 0 then
    f_X8_readKeeper_b79 y45.2 l0 l1 y45.1
  else
    (g_gA y45.2 l0 8 9).bind fun v57 =>
    (f_X8_keeperAt y45.2 v57 l1 y45.1).bind fun v62 =>
    (if v62 = (-1) then
      f_X8_readKeeper_b79 y45.2 l0 l1 y45.1
    else
      (g_gI y45.2 l0 8 13).bind fun v73 =>
      bif g_is y45.2 l0 8 then
      (f_X8_report y45.2 l0 (-4) v73).bind fun h76 =>
      f_X8_readKeeper_b79 h76 l0 l1 y45.1
      else none))
  else none
  else none
def f_X8_readKeeper (h : gH) (a0 : Nat) : Option gH :=
  bif g_is h a0 8 then
  (f_X8_number h a0 0 1).bind fun y3 =>
  bif g_is y3.2 a0 8 then
  (f_X8_isGood y3.2 a0).bind fun v8 =>
  (if v8 = 0 then
    f_X8_readKeeper_b40 y3.2 a0 y3.1
  else
    (g_gA y3.2 a0 8 9).bind fun v15 =>
    (g_ald y3.2 v15 ((f_X8_stationAt y3.1) + 0)).bind fun v24 =>
    (if v24 = 8 then
      (g_gI y3.2 a0 8 13).bind fun v34 =>
      bif g_is y3.2 a0 8 then
      (f_X8_report y3.2 a0 (-5) v34).bind fun h37 =>
      f_X8_readKeeper_b40 h37 a0 y3.1
      else none
    else
      f_X8_readKeeper_b40 y3.2 a0 y3.1))
  else none
  else none
set_option maxRecDepth 100000 in
theorem b_X8_readKeeper_b79 {l : Launch} {G : gG} (h : gH) (l0 : Nat) (l1 : Int32) (l2 : Int32) : GX l G M_X8_readKeeper (g_phi G g_wU (m_R M_X8_readKeeper).cells (m_R M_X8_readKeeper).slots) 0 0 79 [some (.ref l0), some (.int l1), some (.int l2), none] [] h (f_X8_readKeeper_b79 h l0 l1 l2) := by
  unfold f_X8_readKeeper_b79
  refine X_aload_n rfl rfl rfl ?_
  refine X_iconst (v := 0) rfl rfl (by decide) ?_
  refine X_bipush (v := 25) rfl rfl (by decide) ?_
  refine X_callV_IW (M' := M_X8_number) (nA := 2) (As := [.int 0, .int 25]) (st := []) (b := l0) (ci := 8) rfl rfl (by decide +kernel) rfl rfl rfl rfl rfl rfl rfl rfl (fun _ _ e => ct_X8_number e) (fun y83 => ?_)
  refine X_istore_n rfl rfl rfl rfl ?_
  refine X_aload_n rfl rfl rfl ?_
  refine X_callV_IR (M' := M_X8_isGood) (nA := 0) (As := []) (st := []) (b := l0) (ci := 8) rfl rfl (by decide +kernel) rfl rfl rfl rfl rfl rfl rfl rfl (fun _ e => ct_X8_isGood e) (fun v88 => ?_)
  refine X_bif_eq rfl rfl (fun _ => ?_) (fun _ => ?_)
  · exact X_vret rfl rfl rfl rfl rfl rfl
  · refine X_aload_n rfl rfl rfl ?_
    refine X_getA rfl rfl (fun v95 => ?_)
    refine X_iload_n rfl rfl rfl ?_
    refine X_iload_n rfl rfl rfl ?_
    refine X_iload_n rfl rfl rfl ?_
    refine X_callS_UW (M' := M_X8_addKeeper) (nA := 4) (As := [.ref v95, .int l1, .int l2, .int y83.1]) (st := []) rfl rfl (by decide +kernel) rfl rfl rfl rfl rfl rfl rfl (fun _ e => ct_X8_addKeeper e) (fun h101 => ?_)
    exact X_vret rfl rfl rfl rfl rfl rfl
set_option maxRecDepth 100000 in
theorem b_X8_readKeeper_b40 {l : Launch} {G : gG} (h : gH) (l0 : Nat) (l1 : Int32) : GX l G M_X8_readKeeper (g_phi G g_wU (m_R M_X8_readKeeper).cells (m_R M_X8_readKeeper).slots) 0 0 40 [some (.ref l0), some (.int l1), none, none] [] h (f_X8_readKeeper_b40 h l0 l1) := by
  unfold f_X8_readKeeper_b40
  refine X_aload_n rfl rfl rfl ?_
  refine X_iconst (v := 0) rfl rfl (by decide) ?_
  refine X_sipush (v := 9999) rfl rfl (by decide) ?_
  refine X_callV_IW (M' := M_X8_number) (nA := 2) (As := [.int 0, .int 9999]) (st := []) (b := l0) (ci := 8) rfl rfl (by decide +kernel) rfl rfl rfl rfl rfl rfl rfl rfl (fun _ _ e => ct_X8_number e) (fun y45 => ?_)
  refine X_istore_n rfl rfl rfl rfl ?_
  refine X_aload_n rfl rfl rfl ?_
  refine X_callV_IR (M' := M_X8_isGood) (nA := 0) (As := []) (st := []) (b := l0) (ci := 8) rfl rfl (by decide +kernel) rfl rfl rfl rfl rfl rfl rfl rfl (fun _ e => ct_X8_isGood e) (fun v50 => ?_)
  refine X_bif_eq rfl rfl (fun _ => ?_) (fun _ => ?_)
  · exact X_sub (g_sub_s (g_sub_s (g_sub_s (g_sub_n g_sub_0)))) (b_X8_readKeeper_b79  _ _ _ _)
  · refine X_aload_n rfl rfl rfl ?_
    refine X_getA rfl rfl (fun v57 => ?_)
    refine X_iload_n rfl rfl rfl ?_
    refine X_iload_n rfl rfl rfl ?_
    refine X_callS_IR (M' := M_X8_keeperAt) (nA := 3) (As := [.ref v57, .int l1, .int y45.1]) (st := []) rfl rfl (by decide +kernel) rfl rfl rfl rfl rfl rfl rfl (fun _ e => ct_X8_keeperAt e) (fun v62 => ?_)
    refine X_iconst (v := -1) rfl rfl (by decide) ?_
    refine X_bicmp_eq rfl rfl (fun _ => ?_) (fun _ => ?_)
    · exact X_sub (g_sub_s (g_sub_s (g_sub_s (g_sub_n g_sub_0)))) (b_X8_readKeeper_b79  _ _ _ _)
    · refine X_aload_n rfl rfl rfl ?_
      refine X_bipush (v := -4) rfl rfl (by decide) ?_
      refine X_aload_n rfl rfl rfl ?_
      refine X_getI rfl rfl (fun v73 => ?_)
      refine X_callV_UW (M' := M_X8_report) (nA := 2) (As := [.int (-4), .int v73]) (st := []) (b := l0) (ci := 8) rfl rfl (by decide +kernel) rfl rfl rfl rfl rfl rfl rfl rfl (fun _ e => ct_X8_report e) (fun h76 => ?_)
      exact X_sub (g_sub_s (g_sub_s (g_sub_s (g_sub_n g_sub_0)))) (b_X8_readKeeper_b79  _ _ _ _)
set_option maxRecDepth 100000 in
theorem ct_X8_readKeeper {l : Launch} {G : gG} {h : gH} {a0 : Nat} {h1 : gH} (e : f_X8_readKeeper h a0 = some h1) : Ct l G M_X8_readKeeper [.ref a0] h none h1 := by
  refine Ct_of (L := [some (.ref a0), none, none, none]) ok_X8_readKeeper (by decide +kernel) rfl rfl rfl (ρ := g_wU) (F := f_X8_readKeeper h a0) ?_ e rfl
  unfold f_X8_readKeeper
  refine X_aload_n rfl rfl rfl ?_
  refine X_iconst (v := 0) rfl rfl (by decide) ?_
  refine X_iconst (v := 1) rfl rfl (by decide) ?_
  refine X_callV_IW (M' := M_X8_number) (nA := 2) (As := [.int 0, .int 1]) (st := []) (b := a0) (ci := 8) rfl rfl (by decide +kernel) rfl rfl rfl rfl rfl rfl rfl rfl (fun _ _ e => ct_X8_number e) (fun y3 => ?_)
  refine X_istore_n rfl rfl rfl rfl ?_
  refine X_aload_n rfl rfl rfl ?_
  refine X_callV_IR (M' := M_X8_isGood) (nA := 0) (As := []) (st := []) (b := a0) (ci := 8) rfl rfl (by decide +kernel) rfl rfl rfl rfl rfl rfl rfl rfl (fun _ e => ct_X8_isGood e) (fun v8 => ?_)
  refine X_bif_eq rfl rfl (fun _ => ?_) (fun _ => ?_)
  · exact X_sub (g_sub_s (g_sub_s (g_sub_n (g_sub_n g_sub_0)))) (b_X8_readKeeper_b40  _ _ _)
  · refine X_aload_n rfl rfl rfl ?_
    refine X_getA rfl rfl (fun v15 => ?_)
    refine X_iload_n rfl rfl rfl ?_
    refine X_callS_IP (v := f_X8_stationAt y3.1) (M' := M_X8_stationAt) (nA := 1) (As := [.int y3.1]) (st := [.ref v15]) rfl rfl (by decide +kernel) rfl rfl rfl rfl rfl rfl rfl ct_X8_stationAt ?_
    refine X_iconst (v := 0) rfl rfl (by decide) ?_
    refine X_iadd rfl rfl ?_
    refine X_ald rfl rfl (fun v24 => ?_)
    refine X_bipush (v := 8) rfl rfl (by decide) ?_
    refine X_bicmp_ne rfl rfl (fun _ => ?_) (fun _ => ?_)
    · refine X_aload_n rfl rfl rfl ?_
      refine X_bipush (v := -5) rfl rfl (by decide) ?_
      refine X_aload_n rfl rfl rfl ?_
      refine X_getI rfl rfl (fun v34 => ?_)
      refine X_callV_UW (M' := M_X8_report) (nA := 2) (As := [.int (-5), .int v34]) (st := []) (b := a0) (ci := 8) rfl rfl (by decide +kernel) rfl rfl rfl rfl rfl rfl rfl rfl (fun _ e => ct_X8_report e) (fun h37 => ?_)
      exact X_sub (g_sub_s (g_sub_s (g_sub_n (g_sub_n g_sub_0)))) (b_X8_readKeeper_b40  _ _ _)
    · exact X_sub (g_sub_s (g_sub_s (g_sub_n (g_sub_n g_sub_0)))) (b_X8_readKeeper_b40  _ _ _)
def f_X8_addMist (h : gH) (p0 : Nat) (p1 : Int32) (p2 : Int32) (p3 : Int32) : Option gH :=
  (g_ald h p0 7).bind fun v6 =>
  (g_ast h p0 (76 + (3 * v6)) p1).bind fun h15 =>
  (g_ast h15 p0 ((76 + (3 * v6)) + 1) p2).bind fun h22 =>
  (g_ast h22 p0 ((76 + (3 * v6)) + 2) p3).bind fun h29 =>
  (g_ald h29 p0 7).bind fun v34 =>
  (g_ast h29 p0 7 (v34 + 1)).bind fun h37 =>
  some h37
set_option maxRecDepth 100000 in
theorem ct_X8_addMist {l : Launch} {G : gG} {h : gH} {p0 : Nat} {p1 : Int32} {p2 : Int32} {p3 : Int32} {h1 : gH} (e : f_X8_addMist h p0 p1 p2 p3 = some h1) : Ct l G M_X8_addMist [.ref p0, .int p1, .int p2, .int p3] h none h1 := by
  refine Ct_of (L := [some (.ref p0), some (.int p1), some (.int p2), some (.int p3), none]) ok_X8_addMist (by decide +kernel) rfl rfl rfl (ρ := g_wU) (F := f_X8_addMist h p0 p1 p2 p3) ?_ e rfl
  unfold f_X8_addMist
  refine X_bipush (v := 76) rfl rfl (by decide) ?_
  refine X_iconst (v := 3) rfl rfl (by decide) ?_
  refine X_aload_n rfl rfl rfl ?_
  refine X_bipush (v := 7) rfl rfl (by decide) ?_
  refine X_ald rfl rfl (fun v6 => ?_)
  refine X_imul rfl rfl ?_
  refine X_iadd rfl rfl ?_
  refine X_istore rfl rfl rfl rfl ?_
  refine X_aload_n rfl rfl rfl ?_
  refine X_iload rfl rfl rfl ?_
  refine X_iload_n rfl rfl rfl ?_
  refine X_ast rfl rfl (fun h15 => ?_)
  refine X_aload_n rfl rfl rfl ?_
  refine X_iload rfl rfl rfl ?_
  refine X_iconst (v := 1) rfl rfl (by decide) ?_
  refine X_iadd rfl rfl ?_
  refine X_iload_n rfl rfl rfl ?_
  refine X_ast rfl rfl (fun h22 => ?_)
  refine X_aload_n rfl rfl rfl ?_
  refine X_iload rfl rfl rfl ?_
  refine X_iconst (v := 2) rfl rfl (by decide) ?_
  refine X_iadd rfl rfl ?_
  refine X_iload_n rfl rfl rfl ?_
  refine X_ast rfl rfl (fun h29 => ?_)
  refine X_aload_n rfl rfl rfl ?_
  refine X_bipush (v := 7) rfl rfl (by decide) ?_
  refine X_dup2 rfl rfl rfl rfl ?_
  refine X_ald rfl rfl (fun v34 => ?_)
  refine X_iconst (v := 1) rfl rfl (by decide) ?_
  refine X_iadd rfl rfl ?_
  refine X_ast rfl rfl (fun h37 => ?_)
  exact X_vret rfl rfl rfl rfl rfl rfl
def f_X8_readMist_b19 (h : gH) (l0 : Nat) : Option gH :=
  bif g_is h l0 8 then
  (f_X8_number h l0 0 9999).bind fun y24 =>
  bif g_is y24.2 l0 8 then
  (f_X8_number y24.2 l0 y24.1 9999).bind fun y33 =>
  bif g_is y33.2 l0 8 then
  (f_X8_number y33.2 l0 0 9).bind fun y41 =>
  bif g_is y41.2 l0 8 then
  (f_X8_isGood y41.2 l0).bind fun v47 =>
  (if v47 = 0 then
    some y41.2
  else
    (g_gA y41.2 l0 8 9).bind fun v54 =>
    (f_X8_addMist y41.2 v54 y24.1 y33.1 y41.1).bind fun h61 =>
    some h61)
  else none
  else none
  else none
  else none
def f_X8_readMist (h : gH) (a0 : Nat) (p1 : Int32) : Option gH :=
  (g_gA h a0 8 9).bind fun v1 =>
  (g_ald h v1 7).bind fun v6 =>
  (if v6 = 12 then
    bif g_is h a0 8 then
    (f_X8_report h a0 (-5) p1).bind fun h16 =>
    f_X8_readMist_b19 h16 a0
    else none
  else
    f_X8_readMist_b19 h a0)
set_option maxRecDepth 100000 in
theorem b_X8_readMist_b19 {l : Launch} {G : gG} (h : gH) (l0 : Nat) : GX l G M_X8_readMist (g_phi G g_wU (m_R M_X8_readMist).cells (m_R M_X8_readMist).slots) 0 0 19 [some (.ref l0), none, none, none, none] [] h (f_X8_readMist_b19 h l0) := by
  unfold f_X8_readMist_b19
  refine X_aload_n rfl rfl rfl ?_
  refine X_iconst (v := 0) rfl rfl (by decide) ?_
  refine X_sipush (v := 9999) rfl rfl (by decide) ?_
  refine X_callV_IW (M' := M_X8_number) (nA := 2) (As := [.int 0, .int 9999]) (st := []) (b := l0) (ci := 8) rfl rfl (by decide +kernel) rfl rfl rfl rfl rfl rfl rfl rfl (fun _ _ e => ct_X8_number e) (fun y24 => ?_)
  refine X_istore_n rfl rfl rfl rfl ?_
  refine X_aload_n rfl rfl rfl ?_
  refine X_iload_n rfl rfl rfl ?_
  refine X_sipush (v := 9999) rfl rfl (by decide) ?_
  refine X_callV_IW (M' := M_X8_number) (nA := 2) (As := [.int y24.1, .int 9999]) (st := []) (b := l0) (ci := 8) rfl rfl (by decide +kernel) rfl rfl rfl rfl rfl rfl rfl rfl (fun _ _ e => ct_X8_number e) (fun y33 => ?_)
  refine X_istore_n rfl rfl rfl rfl ?_
  refine X_aload_n rfl rfl rfl ?_
  refine X_iconst (v := 0) rfl rfl (by decide) ?_
  refine X_bipush (v := 9) rfl rfl (by decide) ?_
  refine X_callV_IW (M' := M_X8_number) (nA := 2) (As := [.int 0, .int 9]) (st := []) (b := l0) (ci := 8) rfl rfl (by decide +kernel) rfl rfl rfl rfl rfl rfl rfl rfl (fun _ _ e => ct_X8_number e) (fun y41 => ?_)
  refine X_istore rfl rfl rfl rfl ?_
  refine X_aload_n rfl rfl rfl ?_
  refine X_callV_IR (M' := M_X8_isGood) (nA := 0) (As := []) (st := []) (b := l0) (ci := 8) rfl rfl (by decide +kernel) rfl rfl rfl rfl rfl rfl rfl rfl (fun _ e => ct_X8_isGood e) (fun v47 => ?_)
  refine X_bif_eq rfl rfl (fun _ => ?_) (fun _ => ?_)
  · exact X_vret rfl rfl rfl rfl rfl rfl
  · refine X_aload_n rfl rfl rfl ?_
    refine X_getA rfl rfl (fun v54 => ?_)
    refine X_iload_n rfl rfl rfl ?_
    refine X_iload_n rfl rfl rfl ?_
    refine X_iload rfl rfl rfl ?_
    refine X_callS_UW (M' := M_X8_addMist) (nA := 4) (As := [.ref v54, .int y24.1, .int y33.1, .int y41.1]) (st := []) rfl rfl (by decide +kernel) rfl rfl rfl rfl rfl rfl rfl (fun _ e => ct_X8_addMist e) (fun h61 => ?_)
    exact X_vret rfl rfl rfl rfl rfl rfl
set_option maxRecDepth 100000 in
theorem ct_X8_readMist {l : Launch} {G : gG} {h : gH} {a0 : Nat} {p1 : Int32} {h1 : gH} (e : f_X8_readMist h a0 p1 = some h1) : Ct l G M_X8_readMist [.ref a0, .int p1] h none h1 := by
  refine Ct_of (L := [some (.ref a0), some (.int p1), none, none, none]) ok_X8_readMist (by decide +kernel) rfl rfl rfl (ρ := g_wU) (F := f_X8_readMist h a0 p1) ?_ e rfl
  unfold f_X8_readMist
  refine X_aload_n rfl rfl rfl ?_
  refine X_getA rfl rfl (fun v1 => ?_)
  refine X_bipush (v := 7) rfl rfl (by decide) ?_
  refine X_ald rfl rfl (fun v6 => ?_)
  refine X_bipush (v := 12) rfl rfl (by decide) ?_
  refine X_bicmp_ne rfl rfl (fun _ => ?_) (fun _ => ?_)
  · refine X_aload_n rfl rfl rfl ?_
    refine X_bipush (v := -5) rfl rfl (by decide) ?_
    refine X_iload_n rfl rfl rfl ?_
    refine X_callV_UW (M' := M_X8_report) (nA := 2) (As := [.int (-5), .int p1]) (st := []) (b := a0) (ci := 8) rfl rfl (by decide +kernel) rfl rfl rfl rfl rfl rfl rfl rfl (fun _ e => ct_X8_report e) (fun h16 => ?_)
    exact X_sub (g_sub_s (g_sub_n (g_sub_n (g_sub_n (g_sub_n g_sub_0))))) (b_X8_readMist_b19  _ _)
  · exact X_sub (g_sub_s (g_sub_n (g_sub_n (g_sub_n (g_sub_n g_sub_0))))) (b_X8_readMist_b19  _ _)
def f_X8_layMessage_b53 : Nat → gH → Nat → Int32 → Int32 → Option gH
  | 0, _, _, _, _ => none
  | n + 1, h, l0, l4, l5 =>
    (if l5 < 24 then
      (g_ast h l0 ((l4 + 30) + l5) (-1)).bind fun h70 =>
      (g_ast h70 l0 ((l4 + 54) + l5) 0).bind fun h81 =>
      (g_ast h81 l0 ((l4 + 78) + l5) 0).bind fun h92 =>
      f_X8_layMessage_b53  n h92 l0 l4 (l5 + 1)
    else
      (g_ald h l0 1).bind fun v102 =>
      (g_ast h l0 1 (v102 + 1)).bind fun h105 =>
      some h105)
def f_X8_layMessage (h : gH) (p0 : Nat) (p1 : Int32) (p2 : Int32) (p3 : Int32) : Option gH :=
  (g_ald h p0 1).bind fun v2 =>
  (g_ast h p0 ((f_X8_messageAt v2) + 0) p1).bind fun h14 =>
  (g_ast h14 p0 ((f_X8_messageAt v2) + 1) p2).bind fun h21 =>
  (g_ast h21 p0 ((f_X8_messageAt v2) + 2) p3).bind fun h28 =>
  (g_ast h28 p0 ((f_X8_messageAt v2) + 3) 0).bind fun h35 =>
  (g_ast h35 p0 ((f_X8_messageAt v2) + 4) (-1)).bind fun h42 =>
  (g_ast h42 p0 ((f_X8_messageAt v2) + 5) (-1)).bind fun h49 =>
  f_X8_layMessage_b53 g_N h49 p0 (f_X8_messageAt v2) 0
set_option maxRecDepth 100000 in
theorem b_X8_layMessage_b53 {l : Launch} {G : gG} : ∀ (n : Nat) (h : gH) (l0 : Nat) (l4 : Int32) (l5 : Int32), GX l G M_X8_layMessage (g_phi G g_wU (m_R M_X8_layMessage).cells (m_R M_X8_layMessage).slots) 0 0 53 [some (.ref l0), none, none, none, some (.int l4), some (.int l5)] [] h (f_X8_layMessage_b53 n h l0 l4 l5) := by
  intro n
  induction n with
  | zero => intros; exact X_none
  | succ n ih =>
    intro h l0 l4 l5
    rw [f_X8_layMessage_b53]
    refine X_iload rfl rfl rfl ?_
    refine X_bipush (v := 24) rfl rfl (by decide) ?_
    refine X_bicmp_ge rfl rfl (fun _ => ?_) (fun _ => ?_)
    · refine X_aload_n rfl rfl rfl ?_
      refine X_iload rfl rfl rfl ?_
      refine X_bipush (v := 30) rfl rfl (by decide) ?_
      refine X_iadd rfl rfl ?_
      refine X_iload rfl rfl rfl ?_
      refine X_iadd rfl rfl ?_
      refine X_iconst (v := -1) rfl rfl (by decide) ?_
      refine X_ast rfl rfl (fun h70 => ?_)
      refine X_aload_n rfl rfl rfl ?_
      refine X_iload rfl rfl rfl ?_
      refine X_bipush (v := 54) rfl rfl (by decide) ?_
      refine X_iadd rfl rfl ?_
      refine X_iload rfl rfl rfl ?_
      refine X_iadd rfl rfl ?_
      refine X_iconst (v := 0) rfl rfl (by decide) ?_
      refine X_ast rfl rfl (fun h81 => ?_)
      refine X_aload_n rfl rfl rfl ?_
      refine X_iload rfl rfl rfl ?_
      refine X_bipush (v := 78) rfl rfl (by decide) ?_
      refine X_iadd rfl rfl ?_
      refine X_iload rfl rfl rfl ?_
      refine X_iadd rfl rfl ?_
      refine X_iconst (v := 0) rfl rfl (by decide) ?_
      refine X_ast rfl rfl (fun h92 => ?_)
      refine X_iinc (v := l5 + 1) rfl rfl rfl (congrArg (fun z => l5 + z) (by decide : Int32.ofInt 1 = 1)) rfl ?_
      refine X_goto rfl rfl ?_
      exact X_sub (g_sub_s (g_sub_n (g_sub_n (g_sub_n (g_sub_s (g_sub_s g_sub_0)))))) (ih _ _ _ _)
    · refine X_aload_n rfl rfl rfl ?_
      refine X_iconst (v := 1) rfl rfl (by decide) ?_
      refine X_dup2 rfl rfl rfl rfl ?_
      refine X_ald rfl rfl (fun v102 => ?_)
      refine X_iconst (v := 1) rfl rfl (by decide) ?_
      refine X_iadd rfl rfl ?_
      refine X_ast rfl rfl (fun h105 => ?_)
      exact X_vret rfl rfl rfl rfl rfl rfl
set_option maxRecDepth 100000 in
theorem ct_X8_layMessage {l : Launch} {G : gG} {h : gH} {p0 : Nat} {p1 : Int32} {p2 : Int32} {p3 : Int32} {h1 : gH} (e : f_X8_layMessage h p0 p1 p2 p3 = some h1) : Ct l G M_X8_layMessage [.ref p0, .int p1, .int p2, .int p3] h none h1 := by
  refine Ct_of (L := [some (.ref p0), some (.int p1), some (.int p2), some (.int p3), none, none]) ok_X8_layMessage (by decide +kernel) rfl rfl rfl (ρ := g_wU) (F := f_X8_layMessage h p0 p1 p2 p3) ?_ e rfl
  unfold f_X8_layMessage
  refine X_aload_n rfl rfl rfl ?_
  refine X_iconst (v := 1) rfl rfl (by decide) ?_
  refine X_ald rfl rfl (fun v2 => ?_)
  refine X_callS_IP (v := f_X8_messageAt v2) (M' := M_X8_messageAt) (nA := 1) (As := [.int v2]) (st := []) rfl rfl (by decide +kernel) rfl rfl rfl rfl rfl rfl rfl ct_X8_messageAt ?_
  refine X_istore rfl rfl rfl rfl ?_
  refine X_aload_n rfl rfl rfl ?_
  refine X_iload rfl rfl rfl ?_
  refine X_iconst (v := 0) rfl rfl (by decide) ?_
  refine X_iadd rfl rfl ?_
  refine X_iload_n rfl rfl rfl ?_
  refine X_ast rfl rfl (fun h14 => ?_)
  refine X_aload_n rfl rfl rfl ?_
  refine X_iload rfl rfl rfl ?_
  refine X_iconst (v := 1) rfl rfl (by decide) ?_
  refine X_iadd rfl rfl ?_
  refine X_iload_n rfl rfl rfl ?_
  refine X_ast rfl rfl (fun h21 => ?_)
  refine X_aload_n rfl rfl rfl ?_
  refine X_iload rfl rfl rfl ?_
  refine X_iconst (v := 2) rfl rfl (by decide) ?_
  refine X_iadd rfl rfl ?_
  refine X_iload_n rfl rfl rfl ?_
  refine X_ast rfl rfl (fun h28 => ?_)
  refine X_aload_n rfl rfl rfl ?_
  refine X_iload rfl rfl rfl ?_
  refine X_iconst (v := 3) rfl rfl (by decide) ?_
  refine X_iadd rfl rfl ?_
  refine X_iconst (v := 0) rfl rfl (by decide) ?_
  refine X_ast rfl rfl (fun h35 => ?_)
  refine X_aload_n rfl rfl rfl ?_
  refine X_iload rfl rfl rfl ?_
  refine X_iconst (v := 4) rfl rfl (by decide) ?_
  refine X_iadd rfl rfl ?_
  refine X_iconst (v := -1) rfl rfl (by decide) ?_
  refine X_ast rfl rfl (fun h42 => ?_)
  refine X_aload_n rfl rfl rfl ?_
  refine X_iload rfl rfl rfl ?_
  refine X_iconst (v := 5) rfl rfl (by decide) ?_
  refine X_iadd rfl rfl ?_
  refine X_iconst (v := -1) rfl rfl (by decide) ?_
  refine X_ast rfl rfl (fun h49 => ?_)
  refine X_iconst (v := 0) rfl rfl (by decide) ?_
  refine X_istore rfl rfl rfl rfl ?_
  exact X_sub (g_sub_s (g_sub_n (g_sub_n (g_sub_n (g_sub_s (g_sub_s g_sub_0)))))) (b_X8_layMessage_b53  _ _ _ _ _)
def f_X8_readMessage_b182 (h : gH) (l0 : Nat) (l2 : Int32) (l3 : Int32) (l5 : Int32) : Option gH :=
  bif g_is h l0 8 then
  (f_X8_isGood h l0).bind fun v183 =>
  (if v183 = 0 then
    some h
  else
    (g_gA h l0 8 9).bind fun v190 =>
    (f_X8_layMessage h v190 l2 l3 l5).bind fun h197 =>
    some h197)
  else none
def f_X8_readMessage_b167 (h : gH) (l0 : Nat) (l2 : Int32) (l3 : Int32) (l4 : Int32) (l5 : Int32) : Option gH :=
  (if 24 < l5 then
    bif g_is h l0 8 then
    (f_X8_report h l0 (-3) l4).bind fun h179 =>
    f_X8_readMessage_b182 h179 l0 l2 l3 l5
    else none
  else
    f_X8_readMessage_b182 h l0 l2 l3 l5)
def f_X8_readMessage_b151 (K95 : gH → Nat → Int32 → Int32 → Int32 → Int32 → Int32 → Option gH) (h : gH) (l0 : Nat) (l2 : Int32) (l3 : Int32) (l4 : Int32) (l5 : Int32) (l6 : Int32) : Option gH :=
  (g_gI h l0 8 4).bind fun v156 =>
  (g_put h l0 8 4 (.int (v156 + 1))).bind fun h161 =>
  K95 h161 l0 l2 l3 l4 (l5 + 1) l6
def f_X8_readMessage_b95 : Nat → gH → Nat → Int32 → Int32 → Int32 → Int32 → Int32 → Option gH
  | 0, _, _, _, _, _, _, _ => none
  | n + 1, h, l0, l2, l3, l4, l5, l6 =>
    bif g_is h l0 8 then
    (f_X8_isGood h l0).bind fun v96 =>
    (if v96 = 0 then
      f_X8_readMessage_b167 h l0 l2 l3 l4 l5
    else
      (g_gI h l0 8 4).bind fun v104 =>
      bif g_is h l0 8 then
      (f_X8_byteAt h l0 v104).bind fun v107 =>
      (if (f_X8_in v107 97 122) = 0 then
        f_X8_readMessage_b167 h l0 l2 l3 l4 l5
      else
        (if l5 < 24 then
          (g_gA h l0 8 9).bind fun v128 =>
          (g_gI h l0 8 4).bind fun v141 =>
          bif g_is h l0 8 then
          (f_X8_byteAt h l0 v141).bind fun v144 =>
          (g_ast h v128 ((l6 + 6) + l5) (v144 - 97)).bind fun h150 =>
          f_X8_readMessage_b151 (f_X8_readMessage_b95  n) h150 l0 l2 l3 l4 l5 l6
          else none
        else
          f_X8_readMessage_b151 (f_X8_readMessage_b95  n) h l0 l2 l3 l4 l5 l6))
      else none)
    else none
def f_X8_readMessage_b63 (h : gH) (l0 : Nat) (l2 : Int32) (l3 : Int32) (s0 : Int32) : Option gH :=
  (g_gA h l0 8 9).bind fun v69 =>
  (g_ald h v69 1).bind fun v73 =>
  (if s0 = (-1) then
    (g_gI h l0 8 4).bind fun v89 =>
    bif g_is h l0 8 then
    (f_X8_report h l0 (-2) v89).bind fun h92 =>
    f_X8_readMessage_b95 g_N h92 l0 l2 l3 s0 0 (f_X8_messageAt v73)
    else none
  else
    f_X8_readMessage_b95 g_N h l0 l2 l3 s0 0 (f_X8_messageAt v73))
def f_X8_readMessage_b18 (h : gH) (l0 : Nat) : Option gH :=
  bif g_is h l0 8 then
  (f_X8_number h l0 0 1).bind fun y21 =>
  bif g_is y21.2 l0 8 then
  (f_X8_number y21.2 l0 0 9).bind fun y29 =>
  bif g_is y29.2 l0 8 then
  (f_X8_isGood y29.2 l0).bind fun v34 =>
  (if v34 = 0 then
    some y29.2
  else
    bif g_is y29.2 l0 8 then
    (f_X8_ahead y29.2 l0).bind fun y42 =>
    (if (f_X8_in y42.1 97 122) = 0 then
      f_X8_readMessage_b63 y42.2 l0 y21.1 y29.1 (-1)
    else
      (g_gI y42.2 l0 8 4).bind fun v56 =>
      f_X8_readMessage_b63 y42.2 l0 y21.1 y29.1 v56)
    else none)
  else none
  else none
  else none
def f_X8_readMessage (h : gH) (a0 : Nat) (p1 : Int32) : Option gH :=
  (g_gA h a0 8 9).bind fun v1 =>
  (g_ald h v1 1).bind fun v5 =>
  (if v5 = 8 then
    bif g_is h a0 8 then
    (f_X8_report h a0 (-5) p1).bind fun h15 =>
    f_X8_readMessage_b18 h15 a0
    else none
  else
    f_X8_readMessage_b18 h a0)
set_option maxRecDepth 100000 in
theorem b_X8_readMessage_b182 {l : Launch} {G : gG} (h : gH) (l0 : Nat) (l2 : Int32) (l3 : Int32) (l5 : Int32) : GX l G M_X8_readMessage (g_phi G g_wU (m_R M_X8_readMessage).cells (m_R M_X8_readMessage).slots) 0 0 182 [some (.ref l0), none, some (.int l2), some (.int l3), none, some (.int l5), none] [] h (f_X8_readMessage_b182 h l0 l2 l3 l5) := by
  unfold f_X8_readMessage_b182
  refine X_aload_n rfl rfl rfl ?_
  refine X_callV_IR (M' := M_X8_isGood) (nA := 0) (As := []) (st := []) (b := l0) (ci := 8) rfl rfl (by decide +kernel) rfl rfl rfl rfl rfl rfl rfl rfl (fun _ e => ct_X8_isGood e) (fun v183 => ?_)
  refine X_bif_eq rfl rfl (fun _ => ?_) (fun _ => ?_)
  · exact X_vret rfl rfl rfl rfl rfl rfl
  · refine X_aload_n rfl rfl rfl ?_
    refine X_getA rfl rfl (fun v190 => ?_)
    refine X_iload_n rfl rfl rfl ?_
    refine X_iload_n rfl rfl rfl ?_
    refine X_iload rfl rfl rfl ?_
    refine X_callS_UW (M' := M_X8_layMessage) (nA := 4) (As := [.ref v190, .int l2, .int l3, .int l5]) (st := []) rfl rfl (by decide +kernel) rfl rfl rfl rfl rfl rfl rfl (fun _ e => ct_X8_layMessage e) (fun h197 => ?_)
    exact X_vret rfl rfl rfl rfl rfl rfl
set_option maxRecDepth 100000 in
theorem b_X8_readMessage_b167 {l : Launch} {G : gG} (h : gH) (l0 : Nat) (l2 : Int32) (l3 : Int32) (l4 : Int32) (l5 : Int32) : GX l G M_X8_readMessage (g_phi G g_wU (m_R M_X8_readMessage).cells (m_R M_X8_readMessage).slots) 0 0 167 [some (.ref l0), none, some (.int l2), some (.int l3), some (.int l4), some (.int l5), none] [] h (f_X8_readMessage_b167 h l0 l2 l3 l4 l5) := by
  unfold f_X8_readMessage_b167
  refine X_iload rfl rfl rfl ?_
  refine X_bipush (v := 24) rfl rfl (by decide) ?_
  refine X_bicmp_le rfl rfl (fun _ => ?_) (fun _ => ?_)
  · refine X_aload_n rfl rfl rfl ?_
    refine X_bipush (v := -3) rfl rfl (by decide) ?_
    refine X_iload rfl rfl rfl ?_
    refine X_callV_UW (M' := M_X8_report) (nA := 2) (As := [.int (-3), .int l4]) (st := []) (b := l0) (ci := 8) rfl rfl (by decide +kernel) rfl rfl rfl rfl rfl rfl rfl rfl (fun _ e => ct_X8_report e) (fun h179 => ?_)
    exact X_sub (g_sub_s (g_sub_n (g_sub_s (g_sub_s (g_sub_n (g_sub_s (g_sub_n g_sub_0))))))) (b_X8_readMessage_b182  _ _ _ _ _)
  · exact X_sub (g_sub_s (g_sub_n (g_sub_s (g_sub_s (g_sub_n (g_sub_s (g_sub_n g_sub_0))))))) (b_X8_readMessage_b182  _ _ _ _ _)
set_option maxRecDepth 100000 in
theorem b_X8_readMessage_b151 {l : Launch} {G : gG} {K95 : gH → Nat → Int32 → Int32 → Int32 → Int32 → Int32 → Option gH} (hK95 : ∀ (h : gH) (l0 : Nat) (l2 : Int32) (l3 : Int32) (l4 : Int32) (l5 : Int32) (l6 : Int32), GX l G M_X8_readMessage (g_phi G g_wU (m_R M_X8_readMessage).cells (m_R M_X8_readMessage).slots) 0 0 95 [some (.ref l0), none, some (.int l2), some (.int l3), some (.int l4), some (.int l5), some (.int l6)] [] h (K95 h l0 l2 l3 l4 l5 l6)) (h : gH) (l0 : Nat) (l2 : Int32) (l3 : Int32) (l4 : Int32) (l5 : Int32) (l6 : Int32) : GX l G M_X8_readMessage (g_phi G g_wU (m_R M_X8_readMessage).cells (m_R M_X8_readMessage).slots) 0 0 151 [some (.ref l0), none, some (.int l2), some (.int l3), some (.int l4), some (.int l5), some (.int l6)] [] h (f_X8_readMessage_b151 K95 h l0 l2 l3 l4 l5 l6) := by
  unfold f_X8_readMessage_b151
  refine X_iinc (v := l5 + 1) rfl rfl rfl (congrArg (fun z => l5 + z) (by decide : Int32.ofInt 1 = 1)) rfl ?_
  refine X_aload_n rfl rfl rfl ?_
  refine X_dup rfl rfl rfl ?_
  refine X_getI rfl rfl (fun v156 => ?_)
  refine X_iconst (v := 1) rfl rfl (by decide) ?_
  refine X_iadd rfl rfl ?_
  refine X_put rfl rfl rfl rfl rfl (fun h161 => ?_)
  refine X_goto rfl rfl ?_
  exact X_sub (g_sub_s (g_sub_n (g_sub_s (g_sub_s (g_sub_s (g_sub_s (g_sub_s g_sub_0))))))) (hK95 _ _ _ _ _ _ _)
set_option maxRecDepth 100000 in
theorem b_X8_readMessage_b95 {l : Launch} {G : gG} : ∀ (n : Nat) (h : gH) (l0 : Nat) (l2 : Int32) (l3 : Int32) (l4 : Int32) (l5 : Int32) (l6 : Int32), GX l G M_X8_readMessage (g_phi G g_wU (m_R M_X8_readMessage).cells (m_R M_X8_readMessage).slots) 0 0 95 [some (.ref l0), none, some (.int l2), some (.int l3), some (.int l4), some (.int l5), some (.int l6)] [] h (f_X8_readMessage_b95 n h l0 l2 l3 l4 l5 l6) := by
  intro n
  induction n with
  | zero => intros; exact X_none
  | succ n ih =>
    intro h l0 l2 l3 l4 l5 l6
    rw [f_X8_readMessage_b95]
    refine X_aload_n rfl rfl rfl ?_
    refine X_callV_IR (M' := M_X8_isGood) (nA := 0) (As := []) (st := []) (b := l0) (ci := 8) rfl rfl (by decide +kernel) rfl rfl rfl rfl rfl rfl rfl rfl (fun _ e => ct_X8_isGood e) (fun v96 => ?_)
    refine X_bif_eq rfl rfl (fun _ => ?_) (fun _ => ?_)
    · exact X_sub (g_sub_s (g_sub_n (g_sub_s (g_sub_s (g_sub_s (g_sub_s (g_sub_n g_sub_0))))))) (b_X8_readMessage_b167  _ _ _ _ _ _)
    · refine X_aload_n rfl rfl rfl ?_
      refine X_aload_n rfl rfl rfl ?_
      refine X_getI rfl rfl (fun v104 => ?_)
      refine X_callV_IR (M' := M_X8_byteAt) (nA := 1) (As := [.int v104]) (st := []) (b := l0) (ci := 8) rfl rfl (by decide +kernel) rfl rfl rfl rfl rfl rfl rfl rfl (fun _ e => ct_X8_byteAt e) (fun v107 => ?_)
      refine X_bipush (v := 97) rfl rfl (by decide) ?_
      refine X_bipush (v := 122) rfl rfl (by decide) ?_
      refine X_callS_IP (v := f_X8_in v107 97 122) (M' := M_X8_in) (nA := 3) (As := [.int v107, .int 97, .int 122]) (st := []) rfl rfl (by decide +kernel) rfl rfl rfl rfl rfl rfl rfl ct_X8_in ?_
      refine X_bif_eq rfl rfl (fun _ => ?_) (fun _ => ?_)
      · exact X_sub (g_sub_s (g_sub_n (g_sub_s (g_sub_s (g_sub_s (g_sub_s (g_sub_n g_sub_0))))))) (b_X8_readMessage_b167  _ _ _ _ _ _)
      · refine X_iload rfl rfl rfl ?_
        refine X_bipush (v := 24) rfl rfl (by decide) ?_
        refine X_bicmp_ge rfl rfl (fun _ => ?_) (fun _ => ?_)
        · refine X_aload_n rfl rfl rfl ?_
          refine X_getA rfl rfl (fun v128 => ?_)
          refine X_iload rfl rfl rfl ?_
          refine X_bipush (v := 6) rfl rfl (by decide) ?_
          refine X_iadd rfl rfl ?_
          refine X_iload rfl rfl rfl ?_
          refine X_iadd rfl rfl ?_
          refine X_aload_n rfl rfl rfl ?_
          refine X_aload_n rfl rfl rfl ?_
          refine X_getI rfl rfl (fun v141 => ?_)
          refine X_callV_IR (M' := M_X8_byteAt) (nA := 1) (As := [.int v141]) (st := [.int ((l6 + 6) + l5), .ref v128]) (b := l0) (ci := 8) rfl rfl (by decide +kernel) rfl rfl rfl rfl rfl rfl rfl rfl (fun _ e => ct_X8_byteAt e) (fun v144 => ?_)
          refine X_bipush (v := 97) rfl rfl (by decide) ?_
          refine X_isub rfl rfl ?_
          refine X_ast rfl rfl (fun h150 => ?_)
          exact X_sub (g_sub_s (g_sub_n (g_sub_s (g_sub_s (g_sub_s (g_sub_s (g_sub_s g_sub_0))))))) (b_X8_readMessage_b151 ih _ _ _ _ _ _ _)
        · exact X_sub (g_sub_s (g_sub_n (g_sub_s (g_sub_s (g_sub_s (g_sub_s (g_sub_s g_sub_0))))))) (b_X8_readMessage_b151 ih _ _ _ _ _ _ _)
set_option maxRecDepth 100000 in
theorem b_X8_readMessage_b63 {l : Launch} {G : gG} (h : gH) (l0 : Nat) (l2 : Int32) (l3 : Int32) (s0 : Int32) : GX l G M_X8_readMessage (g_phi G g_wU (m_R M_X8_readMessage).cells (m_R M_X8_readMessage).slots) 0 0 63 [some (.ref l0), none, some (.int l2), some (.int l3), none, none, none] [.int s0] h (f_X8_readMessage_b63 h l0 l2 l3 s0) := by
  unfold f_X8_readMessage_b63
  refine X_istore rfl rfl rfl rfl ?_
  refine X_iconst (v := 0) rfl rfl (by decide) ?_
  refine X_istore rfl rfl rfl rfl ?_
  refine X_aload_n rfl rfl rfl ?_
  refine X_getA rfl rfl (fun v69 => ?_)
  refine X_iconst (v := 1) rfl rfl (by decide) ?_
  refine X_ald rfl rfl (fun v73 => ?_)
  refine X_callS_IP (v := f_X8_messageAt v73) (M' := M_X8_messageAt) (nA := 1) (As := [.int v73]) (st := []) rfl rfl (by decide +kernel) rfl rfl rfl rfl rfl rfl rfl ct_X8_messageAt ?_
  refine X_istore rfl rfl rfl rfl ?_
  refine X_iload rfl rfl rfl ?_
  refine X_iconst (v := -1) rfl rfl (by decide) ?_
  refine X_bicmp_ne rfl rfl (fun _ => ?_) (fun _ => ?_)
  · refine X_aload_n rfl rfl rfl ?_
    refine X_bipush (v := -2) rfl rfl (by decide) ?_
    refine X_aload_n rfl rfl rfl ?_
    refine X_getI rfl rfl (fun v89 => ?_)
    refine X_callV_UW (M' := M_X8_report) (nA := 2) (As := [.int (-2), .int v89]) (st := []) (b := l0) (ci := 8) rfl rfl (by decide +kernel) rfl rfl rfl rfl rfl rfl rfl rfl (fun _ e => ct_X8_report e) (fun h92 => ?_)
    exact X_sub (g_sub_s (g_sub_n (g_sub_s (g_sub_s (g_sub_s (g_sub_s (g_sub_s g_sub_0))))))) (b_X8_readMessage_b95  _ _ _ _ _ _ _ _)
  · exact X_sub (g_sub_s (g_sub_n (g_sub_s (g_sub_s (g_sub_s (g_sub_s (g_sub_s g_sub_0))))))) (b_X8_readMessage_b95  _ _ _ _ _ _ _ _)
set_option maxRecDepth 100000 in
theorem b_X8_readMessage_b18 {l : Launch} {G : gG} (h : gH) (l0 : Nat) : GX l G M_X8_readMessage (g_phi G g_wU (m_R M_X8_readMessage).cells (m_R M_X8_readMessage).slots) 0 0 18 [some (.ref l0), none, none, none, none, none, none] [] h (f_X8_readMessage_b18 h l0) := by
  unfold f_X8_readMessage_b18
  refine X_aload_n rfl rfl rfl ?_
  refine X_iconst (v := 0) rfl rfl (by decide) ?_
  refine X_iconst (v := 1) rfl rfl (by decide) ?_
  refine X_callV_IW (M' := M_X8_number) (nA := 2) (As := [.int 0, .int 1]) (st := []) (b := l0) (ci := 8) rfl rfl (by decide +kernel) rfl rfl rfl rfl rfl rfl rfl rfl (fun _ _ e => ct_X8_number e) (fun y21 => ?_)
  refine X_istore_n rfl rfl rfl rfl ?_
  refine X_aload_n rfl rfl rfl ?_
  refine X_iconst (v := 0) rfl rfl (by decide) ?_
  refine X_bipush (v := 9) rfl rfl (by decide) ?_
  refine X_callV_IW (M' := M_X8_number) (nA := 2) (As := [.int 0, .int 9]) (st := []) (b := l0) (ci := 8) rfl rfl (by decide +kernel) rfl rfl rfl rfl rfl rfl rfl rfl (fun _ _ e => ct_X8_number e) (fun y29 => ?_)
  refine X_istore_n rfl rfl rfl rfl ?_
  refine X_aload_n rfl rfl rfl ?_
  refine X_callV_IR (M' := M_X8_isGood) (nA := 0) (As := []) (st := []) (b := l0) (ci := 8) rfl rfl (by decide +kernel) rfl rfl rfl rfl rfl rfl rfl rfl (fun _ e => ct_X8_isGood e) (fun v34 => ?_)
  refine X_bif_ne rfl rfl (fun _ => ?_) (fun _ => ?_)
  · exact X_vret rfl rfl rfl rfl rfl rfl
  · refine X_aload_n rfl rfl rfl ?_
    refine X_callV_IW (M' := M_X8_ahead) (nA := 0) (As := []) (st := []) (b := l0) (ci := 8) rfl rfl (by decide +kernel) rfl rfl rfl rfl rfl rfl rfl rfl (fun _ _ e => ct_X8_ahead e) (fun y42 => ?_)
    refine X_bipush (v := 97) rfl rfl (by decide) ?_
    refine X_bipush (v := 122) rfl rfl (by decide) ?_
    refine X_callS_IP (v := f_X8_in y42.1 97 122) (M' := M_X8_in) (nA := 3) (As := [.int y42.1, .int 97, .int 122]) (st := []) rfl rfl (by decide +kernel) rfl rfl rfl rfl rfl rfl rfl ct_X8_in ?_
    refine X_bif_eq rfl rfl (fun _ => ?_) (fun _ => ?_)
    · refine X_iconst (v := -1) rfl rfl (by decide) ?_
      exact X_sub (g_sub_s (g_sub_n (g_sub_s (g_sub_s (g_sub_n (g_sub_n (g_sub_n g_sub_0))))))) (b_X8_readMessage_b63  _ _ _ _ _)
    · refine X_aload_n rfl rfl rfl ?_
      refine X_getI rfl rfl (fun v56 => ?_)
      refine X_goto rfl rfl ?_
      exact X_sub (g_sub_s (g_sub_n (g_sub_s (g_sub_s (g_sub_n (g_sub_n (g_sub_n g_sub_0))))))) (b_X8_readMessage_b63  _ _ _ _ _)
set_option maxRecDepth 100000 in
theorem ct_X8_readMessage {l : Launch} {G : gG} {h : gH} {a0 : Nat} {p1 : Int32} {h1 : gH} (e : f_X8_readMessage h a0 p1 = some h1) : Ct l G M_X8_readMessage [.ref a0, .int p1] h none h1 := by
  refine Ct_of (L := [some (.ref a0), some (.int p1), none, none, none, none, none]) ok_X8_readMessage (by decide +kernel) rfl rfl rfl (ρ := g_wU) (F := f_X8_readMessage h a0 p1) ?_ e rfl
  unfold f_X8_readMessage
  refine X_aload_n rfl rfl rfl ?_
  refine X_getA rfl rfl (fun v1 => ?_)
  refine X_iconst (v := 1) rfl rfl (by decide) ?_
  refine X_ald rfl rfl (fun v5 => ?_)
  refine X_bipush (v := 8) rfl rfl (by decide) ?_
  refine X_bicmp_ne rfl rfl (fun _ => ?_) (fun _ => ?_)
  · refine X_aload_n rfl rfl rfl ?_
    refine X_bipush (v := -5) rfl rfl (by decide) ?_
    refine X_iload_n rfl rfl rfl ?_
    refine X_callV_UW (M' := M_X8_report) (nA := 2) (As := [.int (-5), .int p1]) (st := []) (b := a0) (ci := 8) rfl rfl (by decide +kernel) rfl rfl rfl rfl rfl rfl rfl rfl (fun _ e => ct_X8_report e) (fun h15 => ?_)
    exact X_sub (g_sub_s (g_sub_n (g_sub_n (g_sub_n (g_sub_n (g_sub_n (g_sub_n g_sub_0))))))) (b_X8_readMessage_b18  _ _)
  · exact X_sub (g_sub_s (g_sub_n (g_sub_n (g_sub_n (g_sub_n (g_sub_n (g_sub_n g_sub_0))))))) (b_X8_readMessage_b18  _ _)
def f_X8_statement_b83 (h : gH) (l0 : Nat) : Option gH :=
  bif g_is h l0 8 then
  (f_X8_expect h l0 59).bind fun h86 =>
  some h86
  else none
def f_X8_statement (h : gH) (a0 : Nat) : Option gH :=
  bif g_is h a0 8 then
  (f_X8_ahead h a0).bind fun y1 =>
  (g_gI y1.2 a0 8 4).bind fun v6 =>
  bif g_is y1.2 a0 8 then
  (f_X8_takeWord y1.2 a0 1).bind fun y13 =>
  (if y13.1 = 0 then
    bif g_is y13.2 a0 8 then
    (f_X8_takeWord y13.2 a0 2).bind fun y29 =>
    (if y29.1 = 0 then
      bif g_is y29.2 a0 8 then
      (f_X8_takeWord y29.2 a0 3).bind fun y45 =>
      (if y45.1 = 0 then
        bif g_is y45.2 a0 8 then
        (f_X8_takeWord y45.2 a0 4).bind fun y62 =>
        (if y62.1 = 0 then
          bif g_is y62.2 a0 8 then
          (f_X8_report y62.2 a0 (-2) v6).bind fun h80 =>
          f_X8_statement_b83 h80 a0
          else none
        else
          bif g_is y62.2 a0 8 then
          (f_X8_readMessage y62.2 a0 v6).bind fun h70 =>
          f_X8_statement_b83 h70 a0
          else none)
        else none
      else
        bif g_is y45.2 a0 8 then
        (f_X8_readMist y45.2 a0 v6).bind fun h53 =>
        f_X8_statement_b83 h53 a0
        else none)
      else none
    else
      bif g_is y29.2 a0 8 then
      (f_X8_readKeeper y29.2 a0).bind fun h36 =>
      f_X8_statement_b83 h36 a0
      else none)
    else none
  else
    bif g_is y13.2 a0 8 then
    (f_X8_readChannel y13.2 a0).bind fun h20 =>
    f_X8_statement_b83 h20 a0
    else none)
  else none
  else none
set_option maxRecDepth 100000 in
theorem b_X8_statement_b83 {l : Launch} {G : gG} (h : gH) (l0 : Nat) : GX l G M_X8_statement (g_phi G g_wU (m_R M_X8_statement).cells (m_R M_X8_statement).slots) 0 0 83 [some (.ref l0), none] [] h (f_X8_statement_b83 h l0) := by
  unfold f_X8_statement_b83
  refine X_aload_n rfl rfl rfl ?_
  refine X_bipush (v := 59) rfl rfl (by decide) ?_
  refine X_callV_UW (M' := M_X8_expect) (nA := 1) (As := [.int 59]) (st := []) (b := l0) (ci := 8) rfl rfl (by decide +kernel) rfl rfl rfl rfl rfl rfl rfl rfl (fun _ e => ct_X8_expect e) (fun h86 => ?_)
  exact X_vret rfl rfl rfl rfl rfl rfl
set_option maxRecDepth 100000 in
theorem ct_X8_statement {l : Launch} {G : gG} {h : gH} {a0 : Nat} {h1 : gH} (e : f_X8_statement h a0 = some h1) : Ct l G M_X8_statement [.ref a0] h none h1 := by
  refine Ct_of (L := [some (.ref a0), none]) ok_X8_statement (by decide +kernel) rfl rfl rfl (ρ := g_wU) (F := f_X8_statement h a0) ?_ e rfl
  unfold f_X8_statement
  refine X_aload_n rfl rfl rfl ?_
  refine X_callV_IW (M' := M_X8_ahead) (nA := 0) (As := []) (st := []) (b := a0) (ci := 8) rfl rfl (by decide +kernel) rfl rfl rfl rfl rfl rfl rfl rfl (fun _ _ e => ct_X8_ahead e) (fun y1 => ?_)
  refine X_pop rfl rfl rfl ?_
  refine X_aload_n rfl rfl rfl ?_
  refine X_getI rfl rfl (fun v6 => ?_)
  refine X_istore_n rfl rfl rfl rfl ?_
  refine X_aload_n rfl rfl rfl ?_
  refine X_ldcS (i := 1) (tx := "channel") rfl rfl (by decide +kernel) ?_
  refine X_callV_IW (M' := M_X8_takeWord) (nA := 1) (As := [.ref (g_aK G 1)]) (st := []) (b := a0) (ci := 8) rfl rfl (by decide +kernel) rfl rfl rfl rfl rfl rfl rfl rfl (fun _ _ e => ct_X8_takeWord e) (fun y13 => ?_)
  refine X_bif_eq rfl rfl (fun _ => ?_) (fun _ => ?_)
  · refine X_aload_n rfl rfl rfl ?_
    refine X_ldcS (i := 2) (tx := "keeper") rfl rfl (by decide +kernel) ?_
    refine X_callV_IW (M' := M_X8_takeWord) (nA := 1) (As := [.ref (g_aK G 2)]) (st := []) (b := a0) (ci := 8) rfl rfl (by decide +kernel) rfl rfl rfl rfl rfl rfl rfl rfl (fun _ _ e => ct_X8_takeWord e) (fun y29 => ?_)
    refine X_bif_eq rfl rfl (fun _ => ?_) (fun _ => ?_)
    · refine X_aload_n rfl rfl rfl ?_
      refine X_ldcS (i := 3) (tx := "mist") rfl rfl (by decide +kernel) ?_
      refine X_callV_IW (M' := M_X8_takeWord) (nA := 1) (As := [.ref (g_aK G 3)]) (st := []) (b := a0) (ci := 8) rfl rfl (by decide +kernel) rfl rfl rfl rfl rfl rfl rfl rfl (fun _ _ e => ct_X8_takeWord e) (fun y45 => ?_)
      refine X_bif_eq rfl rfl (fun _ => ?_) (fun _ => ?_)
      · refine X_aload_n rfl rfl rfl ?_
        refine X_ldcS (i := 4) (tx := "message") rfl rfl (by decide +kernel) ?_
        refine X_callV_IW (M' := M_X8_takeWord) (nA := 1) (As := [.ref (g_aK G 4)]) (st := []) (b := a0) (ci := 8) rfl rfl (by decide +kernel) rfl rfl rfl rfl rfl rfl rfl rfl (fun _ _ e => ct_X8_takeWord e) (fun y62 => ?_)
        refine X_bif_eq rfl rfl (fun _ => ?_) (fun _ => ?_)
        · refine X_aload_n rfl rfl rfl ?_
          refine X_bipush (v := -2) rfl rfl (by decide) ?_
          refine X_iload_n rfl rfl rfl ?_
          refine X_callV_UW (M' := M_X8_report) (nA := 2) (As := [.int (-2), .int v6]) (st := []) (b := a0) (ci := 8) rfl rfl (by decide +kernel) rfl rfl rfl rfl rfl rfl rfl rfl (fun _ e => ct_X8_report e) (fun h80 => ?_)
          exact X_sub (g_sub_s (g_sub_n g_sub_0)) (b_X8_statement_b83  _ _)
        · refine X_aload_n rfl rfl rfl ?_
          refine X_iload_n rfl rfl rfl ?_
          refine X_callV_UW (M' := M_X8_readMessage) (nA := 1) (As := [.int v6]) (st := []) (b := a0) (ci := 8) rfl rfl (by decide +kernel) rfl rfl rfl rfl rfl rfl rfl rfl (fun _ e => ct_X8_readMessage e) (fun h70 => ?_)
          refine X_goto rfl rfl ?_
          exact X_sub (g_sub_s (g_sub_n g_sub_0)) (b_X8_statement_b83  _ _)
      · refine X_aload_n rfl rfl rfl ?_
        refine X_iload_n rfl rfl rfl ?_
        refine X_callV_UW (M' := M_X8_readMist) (nA := 1) (As := [.int v6]) (st := []) (b := a0) (ci := 8) rfl rfl (by decide +kernel) rfl rfl rfl rfl rfl rfl rfl rfl (fun _ e => ct_X8_readMist e) (fun h53 => ?_)
        refine X_goto rfl rfl ?_
        exact X_sub (g_sub_s (g_sub_n g_sub_0)) (b_X8_statement_b83  _ _)
    · refine X_aload_n rfl rfl rfl ?_
      refine X_callV_UW (M' := M_X8_readKeeper) (nA := 0) (As := []) (st := []) (b := a0) (ci := 8) rfl rfl (by decide +kernel) rfl rfl rfl rfl rfl rfl rfl rfl (fun _ e => ct_X8_readKeeper e) (fun h36 => ?_)
      refine X_goto rfl rfl ?_
      exact X_sub (g_sub_s (g_sub_n g_sub_0)) (b_X8_statement_b83  _ _)
  · refine X_aload_n rfl rfl rfl ?_
    refine X_callV_UW (M' := M_X8_readChannel) (nA := 0) (As := []) (st := []) (b := a0) (ci := 8) rfl rfl (by decide +kernel) rfl rfl rfl rfl rfl rfl rfl rfl (fun _ e => ct_X8_readChannel e) (fun h20 => ?_)
    refine X_goto rfl rfl ?_
    exact X_sub (g_sub_s (g_sub_n g_sub_0)) (b_X8_statement_b83  _ _)
def f_X8_remember_b50 (h : gH) (l0 : Nat) : Option gH :=
  (g_gA h l0 8 8).bind fun v51 =>
  (g_gA h l0 8 11).bind fun v55 =>
  (g_gI h l0 8 12).bind fun v59 =>
  (g_qld h v55 3 v59).bind fun v62 =>
  v62.bind fun v62n =>
  (f_X8_copy h v51 v62n).bind fun h63 =>
  (g_gI h63 l0 8 12).bind fun v68 =>
  (g_put h63 l0 8 12 (.int (v68 + 1))).bind fun h73 =>
  some h73
def f_X8_remember_b11 : Nat → gH → Nat → Int32 → Option gH
  | 0, _, _, _ => none
  | n + 1, h, l0, l1 =>
    (if l1 < 8 then
      (g_gA h l0 8 11).bind fun v18 =>
      (g_qld h v18 3 l1).bind fun v22 =>
      v22.bind fun v22n =>
      (g_gA h l0 8 11).bind fun v24 =>
      (g_qld h v24 3 (l1 - 1)).bind fun v30 =>
      v30.bind fun v30n =>
      (f_X8_copy h v22n v30n).bind fun h31 =>
      f_X8_remember_b11  n h31 l0 (l1 + 1)
    else
      (g_gI h l0 8 12).bind fun v42 =>
      (g_put h l0 8 12 (.int (v42 - 1))).bind fun h47 =>
      f_X8_remember_b50 h47 l0)
def f_X8_remember (h : gH) (a0 : Nat) : Option gH :=
  (g_gI h a0 8 12).bind fun v1 =>
  (if v1 = 8 then
    f_X8_remember_b11 g_N h a0 1
  else
    f_X8_remember_b50 h a0)
set_option maxRecDepth 100000 in
theorem b_X8_remember_b50 {l : Launch} {G : gG} (h : gH) (l0 : Nat) : GX l G M_X8_remember (g_phi G g_wU (m_R M_X8_remember).cells (m_R M_X8_remember).slots) 0 0 50 [some (.ref l0), none] [] h (f_X8_remember_b50 h l0) := by
  unfold f_X8_remember_b50
  refine X_aload_n rfl rfl rfl ?_
  refine X_getA rfl rfl (fun v51 => ?_)
  refine X_aload_n rfl rfl rfl ?_
  refine X_getA rfl rfl (fun v55 => ?_)
  refine X_aload_n rfl rfl rfl ?_
  refine X_getI rfl rfl (fun v59 => ?_)
  refine X_qld (t := 3) rfl rfl (by simp) (fun v62 => ?_)
  refine X_nn (fun v62n e62 => ?_)
  subst e62
  refine X_callS_UW (M' := M_X8_copy) (nA := 2) (As := [.ref v51, .ref v62n]) (st := []) rfl rfl (by decide +kernel) rfl rfl rfl rfl rfl rfl rfl (fun _ e => ct_X8_copy e) (fun h63 => ?_)
  refine X_aload_n rfl rfl rfl ?_
  refine X_dup rfl rfl rfl ?_
  refine X_getI rfl rfl (fun v68 => ?_)
  refine X_iconst (v := 1) rfl rfl (by decide) ?_
  refine X_iadd rfl rfl ?_
  refine X_put rfl rfl rfl rfl rfl (fun h73 => ?_)
  exact X_vret rfl rfl rfl rfl rfl rfl
set_option maxRecDepth 100000 in
theorem b_X8_remember_b11 {l : Launch} {G : gG} : ∀ (n : Nat) (h : gH) (l0 : Nat) (l1 : Int32), GX l G M_X8_remember (g_phi G g_wU (m_R M_X8_remember).cells (m_R M_X8_remember).slots) 0 0 11 [some (.ref l0), some (.int l1)] [] h (f_X8_remember_b11 n h l0 l1) := by
  intro n
  induction n with
  | zero => intros; exact X_none
  | succ n ih =>
    intro h l0 l1
    rw [f_X8_remember_b11]
    refine X_iload_n rfl rfl rfl ?_
    refine X_bipush (v := 8) rfl rfl (by decide) ?_
    refine X_bicmp_ge rfl rfl (fun _ => ?_) (fun _ => ?_)
    · refine X_aload_n rfl rfl rfl ?_
      refine X_getA rfl rfl (fun v18 => ?_)
      refine X_iload_n rfl rfl rfl ?_
      refine X_qld (t := 3) rfl rfl (by simp) (fun v22 => ?_)
      refine X_nn (fun v22n e22 => ?_)
      subst e22
      refine X_aload_n rfl rfl rfl ?_
      refine X_getA rfl rfl (fun v24 => ?_)
      refine X_iload_n rfl rfl rfl ?_
      refine X_iconst (v := 1) rfl rfl (by decide) ?_
      refine X_isub rfl rfl ?_
      refine X_qld (t := 3) rfl rfl (by simp) (fun v30 => ?_)
      refine X_nn (fun v30n e30 => ?_)
      subst e30
      refine X_callS_UW (M' := M_X8_copy) (nA := 2) (As := [.ref v22n, .ref v30n]) (st := []) rfl rfl (by decide +kernel) rfl rfl rfl rfl rfl rfl rfl (fun _ e => ct_X8_copy e) (fun h31 => ?_)
      refine X_iinc (v := l1 + 1) rfl rfl rfl (congrArg (fun z => l1 + z) (by decide : Int32.ofInt 1 = 1)) rfl ?_
      refine X_goto rfl rfl ?_
      exact X_sub (g_sub_s (g_sub_s g_sub_0)) (ih _ _ _)
    · refine X_aload_n rfl rfl rfl ?_
      refine X_dup rfl rfl rfl ?_
      refine X_getI rfl rfl (fun v42 => ?_)
      refine X_iconst (v := 1) rfl rfl (by decide) ?_
      refine X_isub rfl rfl ?_
      refine X_put rfl rfl rfl rfl rfl (fun h47 => ?_)
      exact X_sub (g_sub_s (g_sub_n g_sub_0)) (b_X8_remember_b50  _ _)
set_option maxRecDepth 100000 in
theorem ct_X8_remember {l : Launch} {G : gG} {h : gH} {a0 : Nat} {h1 : gH} (e : f_X8_remember h a0 = some h1) : Ct l G M_X8_remember [.ref a0] h none h1 := by
  refine Ct_of (L := [some (.ref a0), none]) ok_X8_remember (by decide +kernel) rfl rfl rfl (ρ := g_wU) (F := f_X8_remember h a0) ?_ e rfl
  unfold f_X8_remember
  refine X_aload_n rfl rfl rfl ?_
  refine X_getI rfl rfl (fun v1 => ?_)
  refine X_bipush (v := 8) rfl rfl (by decide) ?_
  refine X_bicmp_ne rfl rfl (fun _ => ?_) (fun _ => ?_)
  · refine X_iconst (v := 1) rfl rfl (by decide) ?_
    refine X_istore_n rfl rfl rfl rfl ?_
    exact X_sub (g_sub_s (g_sub_s g_sub_0)) (b_X8_remember_b11  _ _ _ _)
  · exact X_sub (g_sub_s (g_sub_n g_sub_0)) (b_X8_remember_b50  _ _)
def f_X8_load_b134 (h : gH) (l0 : Nat) : Option (Int32 × gH) :=
  (g_gI h l0 8 6).bind fun v136 =>
  (g_put h l0 8 7 (.int v136)).bind fun h139 =>
  bif g_is h139 l0 8 then
  (f_X8_isGood h139 l0).bind fun v143 =>
  (if v143 = 0 then
    (g_gI h139 l0 8 5).bind fun v150 =>
    some (v150, h139)
  else
    bif g_is h139 l0 8 then
    (f_X8_remember h139 l0).bind fun h155 =>
    (g_gA h155 l0 8 9).bind fun v159 =>
    (g_gA h155 l0 8 8).bind fun v163 =>
    (f_X8_copy h155 v159 v163).bind fun h166 =>
    (g_gA h166 l0 8 8).bind fun v170 =>
    (g_ald h166 v170 1).bind fun v174 =>
    some (v174, h166)
    else none)
  else none
def f_X8_load_b112 : Nat → gH → Nat → Option (Int32 × gH)
  | 0, _, _ => none
  | n + 1, h, l0 =>
    bif g_is h l0 8 then
    (f_X8_isGood h l0).bind fun v113 =>
    (if v113 = 0 then
      f_X8_load_b134 h l0
    else
      bif g_is h l0 8 then
      (f_X8_ahead h l0).bind fun y120 =>
      (if y120.1 = (-1) then
        f_X8_load_b134 y120.2 l0
      else
        bif g_is y120.2 l0 8 then
        (f_X8_statement y120.2 l0).bind fun h128 =>
        f_X8_load_b112  n h128 l0
        else none)
      else none)
    else none
def f_X8_load_b81 (h : gH) (l0 : Nat) : Option (Int32 × gH) :=
  bif g_is h l0 8 then
  (f_X8_number h l0 1 8).bind fun y85 =>
  bif g_is y85.2 l0 8 then
  (f_X8_number y85.2 l0 1 9).bind fun y93 =>
  (g_gA y93.2 l0 8 9).bind fun v98 =>
  (f_X8_layRelay y93.2 v98 y85.1 y93.1).bind fun h103 =>
  bif g_is h103 l0 8 then
  (f_X8_expect h103 l0 59).bind fun h109 =>
  f_X8_load_b112 g_N h109 l0
  else none
  else none
  else none
def f_X8_load_b23 (h : gH) (l0 : Nat) (l1 : Int32) (s0 : Int32) (s1 : Nat) : Option (Int32 × gH) :=
  bif g_is h s1 8 then
  (f_X8_fails h s1 s0 1).bind fun y24 =>
  (if y24.1 = 0 then
    (g_put y24.2 l0 8 2 (.int 0)).bind fun h34 =>
    (g_put h34 l0 8 3 (.int l1)).bind fun h39 =>
    (g_put h39 l0 8 4 (.int 0)).bind fun h44 =>
    (g_put h44 l0 8 5 (.int 0)).bind fun h49 =>
    (g_put h49 l0 8 6 (.int (-1))).bind fun h54 =>
    (g_put h54 l0 8 14 (.int 0)).bind fun h59 =>
    bif g_is h59 l0 8 then
    (f_X8_takeWord h59 l0 0).bind fun y65 =>
    (if y65.1 = 0 then
      (g_gI y65.2 l0 8 4).bind fun v75 =>
      bif g_is y65.2 l0 8 then
      (f_X8_report y65.2 l0 (-2) v75).bind fun h78 =>
      f_X8_load_b81 h78 l0
      else none
    else
      f_X8_load_b81 y65.2 l0)
    else none
  else
    some (0, y24.2))
  else none
def f_X8_load (h : gH) (a0 : Nat) (p1 : Int32) : Option (Int32 × gH) :=
  (g_put h a0 8 0 (.int 0)).bind fun h2 =>
  (g_gI h2 a0 8 2).bind fun v9 =>
  (if (f_X8_in p1 0 v9) = 0 then
    f_X8_load_b23 h2 a0 p1 1 a0
  else
    f_X8_load_b23 h2 a0 p1 0 a0)
set_option maxRecDepth 100000 in
theorem b_X8_load_b134 {l : Launch} {G : gG} (h : gH) (l0 : Nat) : GX l G M_X8_load (g_phi G g_wI (m_R M_X8_load).cells (m_R M_X8_load).slots) 0 0 134 [some (.ref l0), none, none, none] [] h (f_X8_load_b134 h l0) := by
  unfold f_X8_load_b134
  refine X_aload_n rfl rfl rfl ?_
  refine X_aload_n rfl rfl rfl ?_
  refine X_getI rfl rfl (fun v136 => ?_)
  refine X_put rfl rfl rfl rfl rfl (fun h139 => ?_)
  refine X_aload_n rfl rfl rfl ?_
  refine X_callV_IR (M' := M_X8_isGood) (nA := 0) (As := []) (st := []) (b := l0) (ci := 8) rfl rfl (by decide +kernel) rfl rfl rfl rfl rfl rfl rfl rfl (fun _ e => ct_X8_isGood e) (fun v143 => ?_)
  refine X_bif_ne rfl rfl (fun _ => ?_) (fun _ => ?_)
  · refine X_aload_n rfl rfl rfl ?_
    refine X_getI rfl rfl (fun v150 => ?_)
    exact X_iret rfl rfl rfl rfl rfl rfl rfl
  · refine X_aload_n rfl rfl rfl ?_
    refine X_callV_UW (M' := M_X8_remember) (nA := 0) (As := []) (st := []) (b := l0) (ci := 8) rfl rfl (by decide +kernel) rfl rfl rfl rfl rfl rfl rfl rfl (fun _ e => ct_X8_remember e) (fun h155 => ?_)
    refine X_aload_n rfl rfl rfl ?_
    refine X_getA rfl rfl (fun v159 => ?_)
    refine X_aload_n rfl rfl rfl ?_
    refine X_getA rfl rfl (fun v163 => ?_)
    refine X_callS_UW (M' := M_X8_copy) (nA := 2) (As := [.ref v159, .ref v163]) (st := []) rfl rfl (by decide +kernel) rfl rfl rfl rfl rfl rfl rfl (fun _ e => ct_X8_copy e) (fun h166 => ?_)
    refine X_aload_n rfl rfl rfl ?_
    refine X_getA rfl rfl (fun v170 => ?_)
    refine X_iconst (v := 1) rfl rfl (by decide) ?_
    refine X_ald rfl rfl (fun v174 => ?_)
    exact X_iret rfl rfl rfl rfl rfl rfl rfl
set_option maxRecDepth 100000 in
theorem b_X8_load_b112 {l : Launch} {G : gG} : ∀ (n : Nat) (h : gH) (l0 : Nat), GX l G M_X8_load (g_phi G g_wI (m_R M_X8_load).cells (m_R M_X8_load).slots) 0 0 112 [some (.ref l0), none, none, none] [] h (f_X8_load_b112 n h l0) := by
  intro n
  induction n with
  | zero => intros; exact X_none
  | succ n ih =>
    intro h l0
    rw [f_X8_load_b112]
    refine X_aload_n rfl rfl rfl ?_
    refine X_callV_IR (M' := M_X8_isGood) (nA := 0) (As := []) (st := []) (b := l0) (ci := 8) rfl rfl (by decide +kernel) rfl rfl rfl rfl rfl rfl rfl rfl (fun _ e => ct_X8_isGood e) (fun v113 => ?_)
    refine X_bif_eq rfl rfl (fun _ => ?_) (fun _ => ?_)
    · exact X_sub (g_sub_s (g_sub_n (g_sub_n (g_sub_n g_sub_0)))) (b_X8_load_b134  _ _)
    · refine X_aload_n rfl rfl rfl ?_
      refine X_callV_IW (M' := M_X8_ahead) (nA := 0) (As := []) (st := []) (b := l0) (ci := 8) rfl rfl (by decide +kernel) rfl rfl rfl rfl rfl rfl rfl rfl (fun _ _ e => ct_X8_ahead e) (fun y120 => ?_)
      refine X_iconst (v := -1) rfl rfl (by decide) ?_
      refine X_bicmp_eq rfl rfl (fun _ => ?_) (fun _ => ?_)
      · exact X_sub (g_sub_s (g_sub_n (g_sub_n (g_sub_n g_sub_0)))) (b_X8_load_b134  _ _)
      · refine X_aload_n rfl rfl rfl ?_
        refine X_callV_UW (M' := M_X8_statement) (nA := 0) (As := []) (st := []) (b := l0) (ci := 8) rfl rfl (by decide +kernel) rfl rfl rfl rfl rfl rfl rfl rfl (fun _ e => ct_X8_statement e) (fun h128 => ?_)
        refine X_goto rfl rfl ?_
        exact X_sub (g_sub_s (g_sub_n (g_sub_n (g_sub_n g_sub_0)))) (ih _ _)
set_option maxRecDepth 100000 in
theorem b_X8_load_b81 {l : Launch} {G : gG} (h : gH) (l0 : Nat) : GX l G M_X8_load (g_phi G g_wI (m_R M_X8_load).cells (m_R M_X8_load).slots) 0 0 81 [some (.ref l0), none, none, none] [] h (f_X8_load_b81 h l0) := by
  unfold f_X8_load_b81
  refine X_aload_n rfl rfl rfl ?_
  refine X_iconst (v := 1) rfl rfl (by decide) ?_
  refine X_bipush (v := 8) rfl rfl (by decide) ?_
  refine X_callV_IW (M' := M_X8_number) (nA := 2) (As := [.int 1, .int 8]) (st := []) (b := l0) (ci := 8) rfl rfl (by decide +kernel) rfl rfl rfl rfl rfl rfl rfl rfl (fun _ _ e => ct_X8_number e) (fun y85 => ?_)
  refine X_istore_n rfl rfl rfl rfl ?_
  refine X_aload_n rfl rfl rfl ?_
  refine X_iconst (v := 1) rfl rfl (by decide) ?_
  refine X_bipush (v := 9) rfl rfl (by decide) ?_
  refine X_callV_IW (M' := M_X8_number) (nA := 2) (As := [.int 1, .int 9]) (st := []) (b := l0) (ci := 8) rfl rfl (by decide +kernel) rfl rfl rfl rfl rfl rfl rfl rfl (fun _ _ e => ct_X8_number e) (fun y93 => ?_)
  refine X_istore_n rfl rfl rfl rfl ?_
  refine X_aload_n rfl rfl rfl ?_
  refine X_getA rfl rfl (fun v98 => ?_)
  refine X_iload_n rfl rfl rfl ?_
  refine X_iload_n rfl rfl rfl ?_
  refine X_callS_UW (M' := M_X8_layRelay) (nA := 3) (As := [.ref v98, .int y85.1, .int y93.1]) (st := []) rfl rfl (by decide +kernel) rfl rfl rfl rfl rfl rfl rfl (fun _ e => ct_X8_layRelay e) (fun h103 => ?_)
  refine X_aload_n rfl rfl rfl ?_
  refine X_bipush (v := 59) rfl rfl (by decide) ?_
  refine X_callV_UW (M' := M_X8_expect) (nA := 1) (As := [.int 59]) (st := []) (b := l0) (ci := 8) rfl rfl (by decide +kernel) rfl rfl rfl rfl rfl rfl rfl rfl (fun _ e => ct_X8_expect e) (fun h109 => ?_)
  exact X_sub (g_sub_s (g_sub_n (g_sub_n (g_sub_n g_sub_0)))) (b_X8_load_b112  _ _ _)
set_option maxRecDepth 100000 in
theorem b_X8_load_b23 {l : Launch} {G : gG} (h : gH) (l0 : Nat) (l1 : Int32) (s0 : Int32) (s1 : Nat) : GX l G M_X8_load (g_phi G g_wI (m_R M_X8_load).cells (m_R M_X8_load).slots) 0 0 23 [some (.ref l0), some (.int l1), none, none] [.int s0, .ref s1] h (f_X8_load_b23 h l0 l1 s0 s1) := by
  unfold f_X8_load_b23
  refine X_iconst (v := 1) rfl rfl (by decide) ?_
  refine X_callV_IW (M' := M_X8_fails) (nA := 2) (As := [.int s0, .int 1]) (st := []) (b := s1) (ci := 8) rfl rfl (by decide +kernel) rfl rfl rfl rfl rfl rfl rfl rfl (fun _ _ e => ct_X8_fails e) (fun y24 => ?_)
  refine X_bif_eq rfl rfl (fun _ => ?_) (fun _ => ?_)
  · refine X_aload_n rfl rfl rfl ?_
    refine X_iconst (v := 0) rfl rfl (by decide) ?_
    refine X_put rfl rfl rfl rfl rfl (fun h34 => ?_)
    refine X_aload_n rfl rfl rfl ?_
    refine X_iload_n rfl rfl rfl ?_
    refine X_put rfl rfl rfl rfl rfl (fun h39 => ?_)
    refine X_aload_n rfl rfl rfl ?_
    refine X_iconst (v := 0) rfl rfl (by decide) ?_
    refine X_put rfl rfl rfl rfl rfl (fun h44 => ?_)
    refine X_aload_n rfl rfl rfl ?_
    refine X_iconst (v := 0) rfl rfl (by decide) ?_
    refine X_put rfl rfl rfl rfl rfl (fun h49 => ?_)
    refine X_aload_n rfl rfl rfl ?_
    refine X_iconst (v := -1) rfl rfl (by decide) ?_
    refine X_put rfl rfl rfl rfl rfl (fun h54 => ?_)
    refine X_aload_n rfl rfl rfl ?_
    refine X_iconst (v := 0) rfl rfl (by decide) ?_
    refine X_put rfl rfl rfl rfl rfl (fun h59 => ?_)
    refine X_aload_n rfl rfl rfl ?_
    refine X_ldcS (i := 0) (tx := "relay") rfl rfl (by decide +kernel) ?_
    refine X_callV_IW (M' := M_X8_takeWord) (nA := 1) (As := [.ref (g_aK G 0)]) (st := []) (b := l0) (ci := 8) rfl rfl (by decide +kernel) rfl rfl rfl rfl rfl rfl rfl rfl (fun _ _ e => ct_X8_takeWord e) (fun y65 => ?_)
    refine X_bif_ne rfl rfl (fun _ => ?_) (fun _ => ?_)
    · refine X_aload_n rfl rfl rfl ?_
      refine X_bipush (v := -2) rfl rfl (by decide) ?_
      refine X_aload_n rfl rfl rfl ?_
      refine X_getI rfl rfl (fun v75 => ?_)
      refine X_callV_UW (M' := M_X8_report) (nA := 2) (As := [.int (-2), .int v75]) (st := []) (b := l0) (ci := 8) rfl rfl (by decide +kernel) rfl rfl rfl rfl rfl rfl rfl rfl (fun _ e => ct_X8_report e) (fun h78 => ?_)
      exact X_sub (g_sub_s (g_sub_n (g_sub_n (g_sub_n g_sub_0)))) (b_X8_load_b81  _ _)
    · exact X_sub (g_sub_s (g_sub_n (g_sub_n (g_sub_n g_sub_0)))) (b_X8_load_b81  _ _)
  · refine X_iconst (v := 0) rfl rfl (by decide) ?_
    exact X_iret rfl rfl rfl rfl rfl rfl rfl
set_option maxRecDepth 100000 in
theorem ct_X8_load {l : Launch} {G : gG} {h : gH} {a0 : Nat} {p1 : Int32} {r : Int32} {h1 : gH} (e : f_X8_load h a0 p1 = some (r, h1)) : Ct l G M_X8_load [.ref a0, .int p1] h (some (.int r)) h1 := by
  refine Ct_of (L := [some (.ref a0), some (.int p1), none, none]) ok_X8_load (by decide +kernel) rfl rfl rfl (ρ := g_wI) (F := f_X8_load h a0 p1) ?_ e rfl
  unfold f_X8_load
  refine X_aload_n rfl rfl rfl ?_
  refine X_iconst (v := 0) rfl rfl (by decide) ?_
  refine X_put rfl rfl rfl rfl rfl (fun h2 => ?_)
  refine X_aload_n rfl rfl rfl ?_
  refine X_iload_n rfl rfl rfl ?_
  refine X_iconst (v := 0) rfl rfl (by decide) ?_
  refine X_aload_n rfl rfl rfl ?_
  refine X_getI rfl rfl (fun v9 => ?_)
  refine X_callS_IP (v := f_X8_in p1 0 v9) (M' := M_X8_in) (nA := 3) (As := [.int p1, .int 0, .int v9]) (st := [.ref a0]) rfl rfl (by decide +kernel) rfl rfl rfl rfl rfl rfl rfl ct_X8_in ?_
  refine X_bif_ne rfl rfl (fun _ => ?_) (fun _ => ?_)
  · refine X_iconst (v := 1) rfl rfl (by decide) ?_
    refine X_goto rfl rfl ?_
    exact X_sub (g_sub_s (g_sub_s (g_sub_n (g_sub_n g_sub_0)))) (b_X8_load_b23  _ _ _ _ _)
  · refine X_iconst (v := 0) rfl rfl (by decide) ?_
    exact X_sub (g_sub_s (g_sub_s (g_sub_n (g_sub_n g_sub_0)))) (b_X8_load_b23  _ _ _ _ _)
