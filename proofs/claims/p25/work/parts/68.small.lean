def f_L_flush_b22 (G : gG) : Nat → gH → Nat → Int32 → Option gH
  | 0, _, _, _ => none
  | n + 1, h, l1, l2 =>
    (if l2 < 6 then
      (g_ast h l1 l2 0).bind fun h31 =>
      f_L_flush_b22 G n h31 l1 (l2 + 1)
    else
      some h)
def f_L_flush (G : gG) (h : gH) (p0 : Nat) (p1 : Nat) : Option gH :=
  (g_ald h p1 1).bind fun v3 =>
  (g_ald h p1 2).bind fun v6 =>
  (g_ald h p1 3).bind fun v9 =>
  (g_ald h p1 4).bind fun v12 =>
  (g_ald h p1 5).bind fun v15 =>
  bif g_is h p0 7 then
  (f_X7_append h p0 v3 v6 v9 v12 v15).bind fun y16 =>
  f_L_flush_b22 G g_N y16.2 p1 1
  else none
set_option maxRecDepth 100000 in
theorem b_L_flush_b22 {l : Launch} {G : gG} : ∀ (n : Nat) (h : gH) (l1 : Nat) (l2 : Int32), GX l G M_L_flush (g_phi G g_wU (m_R M_L_flush).cells (m_R M_L_flush).slots) 0 0 22 [none, some (.ref l1), some (.int l2)] [] h (f_L_flush_b22 G n h l1 l2) := by
  intro n
  induction n with
  | zero => intros; exact X_none
  | succ n ih =>
    intro h l1 l2
    rw [f_L_flush_b22]
    refine X_iload_n rfl rfl rfl ?_
    refine X_bipush (v := 6) rfl rfl (by decide) ?_
    refine X_bicmp_ge rfl rfl (fun _ => ?_) (fun _ => ?_)
    · refine X_aload_n rfl rfl rfl ?_
      refine X_iload_n rfl rfl rfl ?_
      refine X_iconst (v := 0) rfl rfl (by decide) ?_
      refine X_ast rfl rfl (fun h31 => ?_)
      refine X_iinc (v := l2 + 1) rfl rfl rfl (congrArg (fun z => l2 + z) (by decide : Int32.ofInt 1 = 1)) rfl ?_
      refine X_goto rfl rfl ?_
      exact X_sub (g_sub_n (g_sub_s (g_sub_s g_sub_0))) (ih _ _ _)
    · exact X_vret rfl rfl rfl rfl rfl rfl
set_option maxRecDepth 100000 in
theorem ct_L_flush {l : Launch} {G : gG} {h : gH} {p0 : Nat} {p1 : Nat} {h1 : gH} (e : f_L_flush G h p0 p1 = some h1) : Ct l G M_L_flush [.ref p0, .ref p1] h none h1 := by
  refine Ct_of (L := [some (.ref p0), some (.ref p1), none]) ok_L_flush (by decide +kernel) rfl rfl rfl (ρ := g_wU) (F := f_L_flush G h p0 p1) ?_ e rfl
  unfold f_L_flush
  refine X_aload_n rfl rfl rfl ?_
  refine X_aload_n rfl rfl rfl ?_
  refine X_iconst (v := 1) rfl rfl (by decide) ?_
  refine X_ald rfl rfl (fun v3 => ?_)
  refine X_aload_n rfl rfl rfl ?_
  refine X_iconst (v := 2) rfl rfl (by decide) ?_
  refine X_ald rfl rfl (fun v6 => ?_)
  refine X_aload_n rfl rfl rfl ?_
  refine X_iconst (v := 3) rfl rfl (by decide) ?_
  refine X_ald rfl rfl (fun v9 => ?_)
  refine X_aload_n rfl rfl rfl ?_
  refine X_iconst (v := 4) rfl rfl (by decide) ?_
  refine X_ald rfl rfl (fun v12 => ?_)
  refine X_aload_n rfl rfl rfl ?_
  refine X_iconst (v := 5) rfl rfl (by decide) ?_
  refine X_ald rfl rfl (fun v15 => ?_)
  refine X_kV_I (k1 := 0) (n1 := 0) (M' := M_X7_append) (nA := 5) (As := [.int v3, .int v6, .int v9, .int v12, .int v15]) (st := []) (b := p0) (ci := 7) rfl rfl (by decide +kernel) rfl rfl rfl rfl rfl rfl rfl rfl (fun _ _ e => ct_X7_append  e) (fun y16 => ?_)
  refine X_pop rfl rfl rfl ?_
  refine X_iconst (v := 1) rfl rfl (by decide) ?_
  refine X_istore_n rfl rfl rfl rfl ?_
  exact X_sub (g_sub_n (g_sub_s (g_sub_s g_sub_0))) (b_L_flush_b22 g_N _ _ _)
def f_L_put (G : gG) (h : gH) (p0 : Nat) (p1 : Nat) (p2 : Int32) : Option gH :=
  (g_ald h p1 0).bind fun v4 =>
  (g_ald h p1 (1 + ((g_rem v4 20) / 4))).bind fun v12 =>
  (g_ald h p1 0).bind fun v20 =>
  (g_ast h p1 (1 + ((g_rem v4 20) / 4)) (v12 ||| (p2 <<< ((24 - (8 * (g_rem v20 4))) &&& 31)))).bind fun h27 =>
  (g_ald h27 p1 0).bind fun v31 =>
  (g_ast h27 p1 0 (v31 + 1)).bind fun h34 =>
  (g_ald h34 p1 0).bind fun v37 =>
  (if (g_rem v37 20) = 0 then
    (f_L_flush G h34 p0 p1).bind fun h46 =>
    some h46
  else
    some h34)
set_option maxRecDepth 100000 in
theorem ct_L_put {l : Launch} {G : gG} {h : gH} {p0 : Nat} {p1 : Nat} {p2 : Int32} {h1 : gH} (e : f_L_put G h p0 p1 p2 = some h1) : Ct l G M_L_put [.ref p0, .ref p1, .int p2] h none h1 := by
  refine Ct_of (L := [some (.ref p0), some (.ref p1), some (.int p2)]) ok_L_put (by decide +kernel) rfl rfl rfl (ρ := g_wU) (F := f_L_put G h p0 p1 p2) ?_ e rfl
  unfold f_L_put
  refine X_aload_n rfl rfl rfl ?_
  refine X_iconst (v := 1) rfl rfl (by decide) ?_
  refine X_aload_n rfl rfl rfl ?_
  refine X_iconst (v := 0) rfl rfl (by decide) ?_
  refine X_ald rfl rfl (fun v4 => ?_)
  refine X_bipush (v := 20) rfl rfl (by decide) ?_
  refine X_irem (v := g_rem v4 20) rfl rfl rfl (by decide) ?_
  refine X_iconst (v := 4) rfl rfl (by decide) ?_
  refine X_idiv (v := (g_rem v4 20) / 4) rfl rfl rfl (by decide) ?_
  refine X_iadd rfl rfl ?_
  refine X_dup2 rfl rfl rfl rfl ?_
  refine X_ald rfl rfl (fun v12 => ?_)
  refine X_iload_n rfl rfl rfl ?_
  refine X_bipush (v := 24) rfl rfl (by decide) ?_
  refine X_bipush (v := 8) rfl rfl (by decide) ?_
  refine X_aload_n rfl rfl rfl ?_
  refine X_iconst (v := 0) rfl rfl (by decide) ?_
  refine X_ald rfl rfl (fun v20 => ?_)
  refine X_iconst (v := 4) rfl rfl (by decide) ?_
  refine X_irem (v := g_rem v20 4) rfl rfl rfl (by decide) ?_
  refine X_imul rfl rfl ?_
  refine X_isub rfl rfl ?_
  refine X_ishl rfl rfl rfl ?_
  refine X_ior rfl rfl ?_
  refine X_ast rfl rfl (fun h27 => ?_)
  refine X_aload_n rfl rfl rfl ?_
  refine X_iconst (v := 0) rfl rfl (by decide) ?_
  refine X_dup2 rfl rfl rfl rfl ?_
  refine X_ald rfl rfl (fun v31 => ?_)
  refine X_iconst (v := 1) rfl rfl (by decide) ?_
  refine X_iadd rfl rfl ?_
  refine X_ast rfl rfl (fun h34 => ?_)
  refine X_aload_n rfl rfl rfl ?_
  refine X_iconst (v := 0) rfl rfl (by decide) ?_
  refine X_ald rfl rfl (fun v37 => ?_)
  refine X_bipush (v := 20) rfl rfl (by decide) ?_
  refine X_irem (v := g_rem v37 20) rfl rfl rfl (by decide) ?_
  refine X_bif_ne rfl rfl (fun _ => ?_) (fun _ => ?_)
  · refine X_aload_n rfl rfl rfl ?_
    refine X_aload_n rfl rfl rfl ?_
    refine X_kS_U (k1 := 0) (n1 := 0) (M' := M_L_flush) (nA := 2) (As := [.ref p0, .ref p1]) (st := []) rfl rfl (by decide +kernel) rfl rfl rfl rfl rfl rfl rfl (fun _ e => ct_L_flush  e) (fun h46 => ?_)
    exact X_vret rfl rfl rfl rfl rfl rfl
  · exact X_vret rfl rfl rfl rfl rfl rfl
def f_L_loadText_b16 (G : gG) (h : gH) (l0 : Nat) (l1 : Nat) (l2 : Int32) : Option (Int32 × gH) :=
  (g_ast h l1 0 0).bind fun h19 =>
  (f_L_load G h19 l0 l2).bind fun y22 =>
  some (y22.1, y22.2)
def f_L_loadText (G : gG) (h : gH) (p0 : Nat) (p1 : Nat) : Option (Int32 × gH) :=
  (g_ald h p1 0).bind fun v2 =>
  (if 0 < (g_rem v2 20) then
    (f_L_flush G h p0 p1).bind fun h13 =>
    f_L_loadText_b16 G h13 p0 p1 v2
  else
    f_L_loadText_b16 G h p0 p1 v2)
set_option maxRecDepth 100000 in
theorem b_L_loadText_b16 {l : Launch} {G : gG} (hl : l.stackTraces = false) (h : gH) (l0 : Nat) (l1 : Nat) (l2 : Int32) : GX l G M_L_loadText (g_phi G g_wI (m_R M_L_loadText).cells (m_R M_L_loadText).slots) 0 0 16 [some (.ref l0), some (.ref l1), some (.int l2)] [] h (f_L_loadText_b16 G h l0 l1 l2) := by
  unfold f_L_loadText_b16
  refine X_aload_n rfl rfl rfl ?_
  refine X_iconst (v := 0) rfl rfl (by decide) ?_
  refine X_iconst (v := 0) rfl rfl (by decide) ?_
  refine X_ast rfl rfl (fun h19 => ?_)
  refine X_aload_n rfl rfl rfl ?_
  refine X_iload_n rfl rfl rfl ?_
  refine X_kY_I (k1 := 1) (n1 := 7) (M' := M_L_load) (nA := 2) (As := [.ref l0, .int l2]) (st := []) rfl rfl (by decide +kernel) rfl rfl rfl rfl rfl rfl rfl (fun _ _ e => cy_L_load hl  e) (fun y22 => ?_)
  exact X_iret rfl rfl rfl rfl rfl rfl rfl
set_option maxRecDepth 100000 in
theorem ct_L_loadText {l : Launch} {G : gG} (hl : l.stackTraces = false) {h : gH} {p0 : Nat} {p1 : Nat} {r : Int32} {h1 : gH} (e : f_L_loadText G h p0 p1 = some (r, h1)) : Ct l G M_L_loadText [.ref p0, .ref p1] h (some (.int r)) h1 := by
  refine Ct_of (L := [some (.ref p0), some (.ref p1), none]) ok_L_loadText (by decide +kernel) rfl rfl rfl (ρ := g_wI) (F := f_L_loadText G h p0 p1) ?_ e rfl
  unfold f_L_loadText
  refine X_aload_n rfl rfl rfl ?_
  refine X_iconst (v := 0) rfl rfl (by decide) ?_
  refine X_ald rfl rfl (fun v2 => ?_)
  refine X_istore_n rfl rfl rfl rfl ?_
  refine X_iload_n rfl rfl rfl ?_
  refine X_bipush (v := 20) rfl rfl (by decide) ?_
  refine X_irem (v := g_rem v2 20) rfl rfl rfl (by decide) ?_
  refine X_bif_le rfl rfl (fun _ => ?_) (fun _ => ?_)
  · refine X_aload_n rfl rfl rfl ?_
    refine X_aload_n rfl rfl rfl ?_
    refine X_kS_U (k1 := 0) (n1 := 0) (M' := M_L_flush) (nA := 2) (As := [.ref p0, .ref p1]) (st := []) rfl rfl (by decide +kernel) rfl rfl rfl rfl rfl rfl rfl (fun _ e => ct_L_flush  e) (fun h13 => ?_)
    exact X_sub (g_sub_s (g_sub_s (g_sub_s g_sub_0))) (b_L_loadText_b16 hl _ _ _ _)
  · exact X_sub (g_sub_s (g_sub_s (g_sub_s g_sub_0))) (b_L_loadText_b16 hl _ _ _ _)
def f_L_write_b2 (G : gG) : Nat → gH → Nat → Nat → Nat → Int32 → Option gH
  | 0, _, _, _, _, _ => none
  | n + 1, h, l0, l1, l2, l3 =>
    bif g_isS G h l2 then
    (f_T0_length_8abf5 G h l2).bind fun v4 =>
    (if l3 < v4 then
      bif g_isS G h l2 then
      (f_T0_charAt_5068e G h l2 l3).bind fun v14 =>
      (f_L_put G h l0 l1 v14).bind fun h17 =>
      f_L_write_b2 G n h17 l0 l1 l2 (l3 + 1)
      else none
    else
      some h)
    else none
def f_L_write (G : gG) (h : gH) (p0 : Nat) (p1 : Nat) (p2 : Nat) : Option gH :=
  f_L_write_b2 G g_N h p0 p1 p2 0
set_option maxRecDepth 100000 in
theorem b_L_write_b2 {l : Launch} {G : gG} : ∀ (n : Nat) (h : gH) (l0 : Nat) (l1 : Nat) (l2 : Nat) (l3 : Int32), GX l G M_L_write (g_phi G g_wU (m_R M_L_write).cells (m_R M_L_write).slots) 0 0 2 [some (.ref l0), some (.ref l1), some (.ref l2), some (.int l3)] [] h (f_L_write_b2 G n h l0 l1 l2 l3) := by
  intro n
  induction n with
  | zero => intros; exact X_none
  | succ n ih =>
    intro h l0 l1 l2 l3
    rw [f_L_write_b2]
    refine X_iload_n rfl rfl rfl ?_
    refine X_aload_n rfl rfl rfl ?_
    refine X_kG_IR (M' := M_T0_length_8abf5) (nA := 0) (As := []) (st := [.int l3]) (x := l2) rfl rfl (by decide +kernel) rfl rfl rfl rfl rfl rfl rfl rfl (fun _ e => ct_T0_length_8abf5  e) (fun v4 => ?_)
    refine X_bicmp_ge rfl rfl (fun _ => ?_) (fun _ => ?_)
    · refine X_aload_n rfl rfl rfl ?_
      refine X_aload_n rfl rfl rfl ?_
      refine X_aload_n rfl rfl rfl ?_
      refine X_iload_n rfl rfl rfl ?_
      refine X_kG_IR (M' := M_T0_charAt_5068e) (nA := 1) (As := [.int l3]) (st := [.ref l1, .ref l0]) (x := l2) rfl rfl (by decide +kernel) rfl rfl rfl rfl rfl rfl rfl rfl (fun _ e => ct_T0_charAt_5068e  e) (fun v14 => ?_)
      refine X_kS_U (k1 := 0) (n1 := 0) (M' := M_L_put) (nA := 3) (As := [.ref l0, .ref l1, .int v14]) (st := []) rfl rfl (by decide +kernel) rfl rfl rfl rfl rfl rfl rfl (fun _ e => ct_L_put  e) (fun h17 => ?_)
      refine X_iinc (v := l3 + 1) rfl rfl rfl (congrArg (fun z => l3 + z) (by decide : Int32.ofInt 1 = 1)) rfl ?_
      refine X_goto rfl rfl ?_
      exact X_sub (g_sub_s (g_sub_s (g_sub_s (g_sub_s g_sub_0)))) (ih _ _ _ _ _)
    · exact X_vret rfl rfl rfl rfl rfl rfl
set_option maxRecDepth 100000 in
theorem ct_L_write {l : Launch} {G : gG} {h : gH} {p0 : Nat} {p1 : Nat} {p2 : Nat} {h1 : gH} (e : f_L_write G h p0 p1 p2 = some h1) : Ct l G M_L_write [.ref p0, .ref p1, .ref p2] h none h1 := by
  refine Ct_of (L := [some (.ref p0), some (.ref p1), some (.ref p2), none]) ok_L_write (by decide +kernel) rfl rfl rfl (ρ := g_wU) (F := f_L_write G h p0 p1 p2) ?_ e rfl
  unfold f_L_write
  refine X_iconst (v := 0) rfl rfl (by decide) ?_
  refine X_istore_n rfl rfl rfl rfl ?_
  exact X_sub (g_sub_s (g_sub_s (g_sub_s (g_sub_s g_sub_0)))) (b_L_write_b2 g_N _ _ _ _ _)
def f_L_writeNumber_b18 (G : gG) : Nat → gH → Nat → Nat → Int32 → Int32 → Option gH
  | 0, _, _, _, _, _ => none
  | n + 1, h, l0, l1, l2, l3 =>
    (if 0 < l3 then
      if l3 = 0 then none else
      (f_L_put G h l0 l1 (48 + (g_rem (l2 / l3) 10))).bind fun h33 =>
      f_L_writeNumber_b18 G n h33 l0 l1 l2 (l3 / 10)
    else
      some h)
def f_L_writeNumber_b2 (G : gG) : Nat → gH → Nat → Nat → Int32 → Int32 → Option gH
  | 0, _, _, _, _, _ => none
  | n + 1, h, l0, l1, l2, l3 =>
    (if l3 ≤ (l2 / 10) then
      f_L_writeNumber_b2 G n h l0 l1 l2 (l3 * 10)
    else
      f_L_writeNumber_b18 G g_N h l0 l1 l2 l3)
def f_L_writeNumber (G : gG) (h : gH) (p0 : Nat) (p1 : Nat) (p2 : Int32) : Option gH :=
  f_L_writeNumber_b2 G g_N h p0 p1 p2 1
set_option maxRecDepth 100000 in
theorem b_L_writeNumber_b18 {l : Launch} {G : gG} : ∀ (n : Nat) (h : gH) (l0 : Nat) (l1 : Nat) (l2 : Int32) (l3 : Int32), GX l G M_L_writeNumber (g_phi G g_wU (m_R M_L_writeNumber).cells (m_R M_L_writeNumber).slots) 0 0 18 [some (.ref l0), some (.ref l1), some (.int l2), some (.int l3)] [] h (f_L_writeNumber_b18 G n h l0 l1 l2 l3) := by
  intro n
  induction n with
  | zero => intros; exact X_none
  | succ n ih =>
    intro h l0 l1 l2 l3
    rw [f_L_writeNumber_b18]
    refine X_iload_n rfl rfl rfl ?_
    refine X_bif_le rfl rfl (fun _ => ?_) (fun _ => ?_)
    · refine X_aload_n rfl rfl rfl ?_
      refine X_aload_n rfl rfl rfl ?_
      refine X_bipush (v := 48) rfl rfl (by decide) ?_
      refine X_iload_n rfl rfl rfl ?_
      refine X_iload_n rfl rfl rfl ?_
      refine X_if (fun _ => X_none) (fun hz => ?_)
      refine X_idiv (v := l2 / l3) rfl rfl rfl hz ?_
      refine X_bipush (v := 10) rfl rfl (by decide) ?_
      refine X_irem (v := g_rem (l2 / l3) 10) rfl rfl rfl (by decide) ?_
      refine X_iadd rfl rfl ?_
      refine X_kS_U (k1 := 0) (n1 := 0) (M' := M_L_put) (nA := 3) (As := [.ref l0, .ref l1, .int (48 + (g_rem (l2 / l3) 10))]) (st := []) rfl rfl (by decide +kernel) rfl rfl rfl rfl rfl rfl rfl (fun _ e => ct_L_put  e) (fun h33 => ?_)
      refine X_iload_n rfl rfl rfl ?_
      refine X_bipush (v := 10) rfl rfl (by decide) ?_
      refine X_idiv (v := l3 / 10) rfl rfl rfl (by decide) ?_
      refine X_istore_n rfl rfl rfl rfl ?_
      refine X_goto rfl rfl ?_
      exact X_sub (g_sub_s (g_sub_s (g_sub_s (g_sub_s g_sub_0)))) (ih _ _ _ _ _)
    · exact X_vret rfl rfl rfl rfl rfl rfl
set_option maxRecDepth 100000 in
theorem b_L_writeNumber_b2 {l : Launch} {G : gG} : ∀ (n : Nat) (h : gH) (l0 : Nat) (l1 : Nat) (l2 : Int32) (l3 : Int32), GX l G M_L_writeNumber (g_phi G g_wU (m_R M_L_writeNumber).cells (m_R M_L_writeNumber).slots) 0 0 2 [some (.ref l0), some (.ref l1), some (.int l2), some (.int l3)] [] h (f_L_writeNumber_b2 G n h l0 l1 l2 l3) := by
  intro n
  induction n with
  | zero => intros; exact X_none
  | succ n ih =>
    intro h l0 l1 l2 l3
    rw [f_L_writeNumber_b2]
    refine X_iload_n rfl rfl rfl ?_
    refine X_iload_n rfl rfl rfl ?_
    refine X_bipush (v := 10) rfl rfl (by decide) ?_
    refine X_idiv (v := l2 / 10) rfl rfl rfl (by decide) ?_
    refine X_bicmp_gt rfl rfl (fun _ => ?_) (fun _ => ?_)
    · refine X_iload_n rfl rfl rfl ?_
      refine X_bipush (v := 10) rfl rfl (by decide) ?_
      refine X_imul rfl rfl ?_
      refine X_istore_n rfl rfl rfl rfl ?_
      refine X_goto rfl rfl ?_
      exact X_sub (g_sub_s (g_sub_s (g_sub_s (g_sub_s g_sub_0)))) (ih _ _ _ _ _)
    · exact X_sub (g_sub_s (g_sub_s (g_sub_s (g_sub_s g_sub_0)))) (b_L_writeNumber_b18 g_N _ _ _ _ _)
set_option maxRecDepth 100000 in
theorem ct_L_writeNumber {l : Launch} {G : gG} {h : gH} {p0 : Nat} {p1 : Nat} {p2 : Int32} {h1 : gH} (e : f_L_writeNumber G h p0 p1 p2 = some h1) : Ct l G M_L_writeNumber [.ref p0, .ref p1, .int p2] h none h1 := by
  refine Ct_of (L := [some (.ref p0), some (.ref p1), some (.int p2), none]) ok_L_writeNumber (by decide +kernel) rfl rfl rfl (ρ := g_wU) (F := f_L_writeNumber G h p0 p1 p2) ?_ e rfl
  unfold f_L_writeNumber
  refine X_iconst (v := 1) rfl rfl (by decide) ?_
  refine X_istore_n rfl rfl rfl rfl ?_
  exact X_sub (g_sub_s (g_sub_s (g_sub_s (g_sub_s g_sub_0)))) (b_L_writeNumber_b2 g_N _ _ _ _ _)
def f_L_sendText_b21 (G : gG) (h : gH) (l0 : Nat) (l1 : Nat) (l2 : Nat) (l3 : Int32) (l4 : Int32) : Option (Int32 × gH) :=
  (g_ast h l1 0 0).bind fun h24 =>
  bif g_isS G h24 l2 then
  (f_T0_length_8abf5 G h24 l2).bind fun v30 =>
  (f_L_send G h24 l0 l3 l4 v30).bind fun y33 =>
  some (y33.1, y33.2)
  else none
def f_L_sendText (G : gG) (h : gH) (p0 : Nat) (p1 : Nat) (p2 : Nat) (p3 : Int32) (p4 : Int32) : Option (Int32 × gH) :=
  (f_L_write G h p0 p1 p2).bind fun h3 =>
  bif g_isS G h3 p2 then
  (f_T0_length_8abf5 G h3 p2).bind fun v7 =>
  (if 0 < (g_rem v7 20) then
    (f_L_flush G h3 p0 p1).bind fun h18 =>
    f_L_sendText_b21 G h18 p0 p1 p2 p3 p4
  else
    f_L_sendText_b21 G h3 p0 p1 p2 p3 p4)
  else none
set_option maxRecDepth 100000 in
theorem b_L_sendText_b21 {l : Launch} {G : gG} (hl : l.stackTraces = false) (h : gH) (l0 : Nat) (l1 : Nat) (l2 : Nat) (l3 : Int32) (l4 : Int32) : GX l G M_L_sendText (g_phi G g_wI (m_R M_L_sendText).cells (m_R M_L_sendText).slots) 0 0 21 [some (.ref l0), some (.ref l1), some (.ref l2), some (.int l3), some (.int l4)] [] h (f_L_sendText_b21 G h l0 l1 l2 l3 l4) := by
  unfold f_L_sendText_b21
  refine X_aload_n rfl rfl rfl ?_
  refine X_iconst (v := 0) rfl rfl (by decide) ?_
  refine X_iconst (v := 0) rfl rfl (by decide) ?_
  refine X_ast rfl rfl (fun h24 => ?_)
  refine X_aload_n rfl rfl rfl ?_
  refine X_iload_n rfl rfl rfl ?_
  refine X_iload rfl rfl rfl ?_
  refine X_aload_n rfl rfl rfl ?_
  refine X_kG_IR (M' := M_T0_length_8abf5) (nA := 0) (As := []) (st := [.int l4, .int l3, .ref l0]) (x := l2) rfl rfl (by decide +kernel) rfl rfl rfl rfl rfl rfl rfl rfl (fun _ e => ct_T0_length_8abf5  e) (fun v30 => ?_)
  refine X_kY_I (k1 := 1) (n1 := 6) (M' := M_L_send) (nA := 4) (As := [.ref l0, .int l3, .int l4, .int v30]) (st := []) rfl rfl (by decide +kernel) rfl rfl rfl rfl rfl rfl rfl (fun _ _ e => cy_L_send hl  e) (fun y33 => ?_)
  exact X_iret rfl rfl rfl rfl rfl rfl rfl
set_option maxRecDepth 100000 in
theorem ct_L_sendText {l : Launch} {G : gG} (hl : l.stackTraces = false) {h : gH} {p0 : Nat} {p1 : Nat} {p2 : Nat} {p3 : Int32} {p4 : Int32} {r : Int32} {h1 : gH} (e : f_L_sendText G h p0 p1 p2 p3 p4 = some (r, h1)) : Ct l G M_L_sendText [.ref p0, .ref p1, .ref p2, .int p3, .int p4] h (some (.int r)) h1 := by
  refine Ct_of (L := [some (.ref p0), some (.ref p1), some (.ref p2), some (.int p3), some (.int p4)]) ok_L_sendText (by decide +kernel) rfl rfl rfl (ρ := g_wI) (F := f_L_sendText G h p0 p1 p2 p3 p4) ?_ e rfl
  unfold f_L_sendText
  refine X_aload_n rfl rfl rfl ?_
  refine X_aload_n rfl rfl rfl ?_
  refine X_aload_n rfl rfl rfl ?_
  refine X_kS_U (k1 := 0) (n1 := 0) (M' := M_L_write) (nA := 3) (As := [.ref p0, .ref p1, .ref p2]) (st := []) rfl rfl (by decide +kernel) rfl rfl rfl rfl rfl rfl rfl (fun _ e => ct_L_write  e) (fun h3 => ?_)
  refine X_aload_n rfl rfl rfl ?_
  refine X_kG_IR (M' := M_T0_length_8abf5) (nA := 0) (As := []) (st := []) (x := p2) rfl rfl (by decide +kernel) rfl rfl rfl rfl rfl rfl rfl rfl (fun _ e => ct_T0_length_8abf5  e) (fun v7 => ?_)
  refine X_bipush (v := 20) rfl rfl (by decide) ?_
  refine X_irem (v := g_rem v7 20) rfl rfl rfl (by decide) ?_
  refine X_bif_le rfl rfl (fun _ => ?_) (fun _ => ?_)
  · refine X_aload_n rfl rfl rfl ?_
    refine X_aload_n rfl rfl rfl ?_
    refine X_kS_U (k1 := 0) (n1 := 0) (M' := M_L_flush) (nA := 2) (As := [.ref p0, .ref p1]) (st := []) rfl rfl (by decide +kernel) rfl rfl rfl rfl rfl rfl rfl (fun _ e => ct_L_flush  e) (fun h18 => ?_)
    exact X_sub (g_sub_s (g_sub_s (g_sub_s (g_sub_s (g_sub_s g_sub_0))))) (b_L_sendText_b21 hl _ _ _ _ _ _)
  · exact X_sub (g_sub_s (g_sub_s (g_sub_s (g_sub_s (g_sub_s g_sub_0))))) (b_L_sendText_b21 hl _ _ _ _ _ _)
def f_L_with_b10 (G : gG) : Nat → gH → Nat → Nat → Nat → Int32 → Option (Nat × gH)
  | 0, _, _, _, _, _ => none
  | n + 1, h, l0, l1, l2, l3 =>
    (g_aln h l0).bind fun v12 =>
    (if l3 < v12 then
      (g_qld h l0 3 l3).bind fun v20 =>
      v20.bind fun v20n =>
      bif g_isA h v20n 0 then (g_qst h l2 3 l3 v20n).bind fun h21 =>
      f_L_with_b10 G n h21 l0 l1 l2 (l3 + 1)
      else none
    else
      (g_aln h l0).bind fun v30 =>
      bif g_isA h l1 0 then (g_qst h l2 3 v30 l1).bind fun h32 =>
      some (l2, h32)
      else none)
def f_L_with (G : gG) (h : gH) (p0 : Nat) (p1 : Nat) : Option (Nat × gH) :=
  (g_aln h p0).bind fun v1 =>
  (g_nwQ h 3 (v1 + 1) 20).bind fun h4 =>
  f_L_with_b10 G g_N h4 p0 p1 h.1 0
set_option maxRecDepth 100000 in
theorem b_L_with_b10 {l : Launch} {G : gG} : ∀ (n : Nat) (h : gH) (l0 : Nat) (l1 : Nat) (l2 : Nat) (l3 : Int32), GX l G M_L_with (g_phi G g_wA (m_R M_L_with).cells (m_R M_L_with).slots) 1 20 10 [some (.ref l0), some (.ref l1), some (.ref l2), some (.int l3)] [] h (f_L_with_b10 G n h l0 l1 l2 l3) := by
  intro n
  induction n with
  | zero => intros; exact X_none
  | succ n ih =>
    intro h l0 l1 l2 l3
    rw [f_L_with_b10]
    refine X_iload_n rfl rfl rfl ?_
    refine X_aload_n rfl rfl rfl ?_
    refine X_aln rfl rfl (fun v12 => ?_)
    refine X_bicmp_ge rfl rfl (fun _ => ?_) (fun _ => ?_)
    · refine X_aload_n rfl rfl rfl ?_
      refine X_iload_n rfl rfl rfl ?_
      refine X_aload_n rfl rfl rfl ?_
      refine X_iload_n rfl rfl rfl ?_
      refine X_qld (t := 3) rfl rfl (by simp) (fun v20 => ?_)
      refine X_nn (fun v20n e20 => ?_)
      subst e20
      refine X_qstA rfl rfl (by decide +kernel) (fun h21 => ?_)
      refine X_iinc (v := l3 + 1) rfl rfl rfl (congrArg (fun z => l3 + z) (by decide : Int32.ofInt 1 = 1)) rfl ?_
      refine X_goto rfl rfl ?_
      exact X_sub (g_sub_s (g_sub_s (g_sub_s (g_sub_s g_sub_0)))) (ih _ _ _ _ _)
    · refine X_aload_n rfl rfl rfl ?_
      refine X_aload_n rfl rfl rfl ?_
      refine X_aln rfl rfl (fun v30 => ?_)
      refine X_aload_n rfl rfl rfl ?_
      refine X_qstA rfl rfl (by decide +kernel) (fun h32 => ?_)
      refine X_aload_n rfl rfl rfl ?_
      exact X_aretR rfl rfl rfl rfl rfl rfl
set_option maxRecDepth 100000 in
theorem ct_L_with {l : Launch} {G : gG} {h : gH} {p0 : Nat} {p1 : Nat} {r : Nat} {h1 : gH} (e : f_L_with G h p0 p1 = some (r, h1)) : Ct l G M_L_with [.ref p0, .ref p1] h (some (.ref r)) h1 := by
  refine Ct_of (L := [some (.ref p0), some (.ref p1), none, none]) ok_L_with (by decide +kernel) rfl rfl rfl (ρ := g_wA) (F := f_L_with G h p0 p1) ?_ e rfl
  unfold f_L_with
  refine X_aload_n rfl rfl rfl ?_
  refine X_aln rfl rfl (fun v1 => ?_)
  refine X_iconst (v := 1) rfl rfl (by decide) ?_
  refine X_iadd rfl rfl ?_
  refine X_nwR (k1 := 1) (n1 := 20) (B := 20) rfl rfl rfl rfl (by decide +kernel) (by decide +kernel) rfl rfl rfl (fun h4 => ?_)
  refine X_astore_n rfl rfl rfl rfl ?_
  refine X_iconst (v := 0) rfl rfl (by decide) ?_
  refine X_istore_n rfl rfl rfl rfl ?_
  exact X_sub (g_sub_s (g_sub_s (g_sub_s (g_sub_s g_sub_0)))) (b_L_with_b10 g_N _ _ _ _ _)
def f_L_writeAll_b17 (G : gG) : Nat → gH → Nat → Nat → Nat → Int32 → Int32 → Option gH
  | 0, _, _, _, _, _, _ => none
  | n + 1, h, l0, l1, l4, l5, l6 =>
    (if l6 < l5 then
      (g_ald h l4 l6).bind fun v28 =>
      (f_L_write G h l0 l1 (g_aK G 21)).bind fun h35 =>
      (f_L_writeNumber G h35 l0 l1 v28).bind fun h42 =>
      f_L_writeAll_b17 G n h42 l0 l1 l4 l5 (l6 + 1)
    else
      some h)
def f_L_writeAll (G : gG) (h : gH) (p0 : Nat) (p1 : Nat) (p2 : Nat) (p3 : Nat) : Option gH :=
  (f_L_write G h p0 p1 p2).bind fun h3 =>
  (g_aln h3 p3).bind fun v11 =>
  f_L_writeAll_b17 G g_N h3 p0 p1 p3 v11 0
set_option maxRecDepth 100000 in
theorem b_L_writeAll_b17 {l : Launch} {G : gG} : ∀ (n : Nat) (h : gH) (l0 : Nat) (l1 : Nat) (l4 : Nat) (l5 : Int32) (l6 : Int32), GX l G M_L_writeAll (g_phi G g_wU (m_R M_L_writeAll).cells (m_R M_L_writeAll).slots) 0 0 17 [some (.ref l0), some (.ref l1), none, none, some (.ref l4), some (.int l5), some (.int l6), none] [] h (f_L_writeAll_b17 G n h l0 l1 l4 l5 l6) := by
  intro n
  induction n with
  | zero => intros; exact X_none
  | succ n ih =>
    intro h l0 l1 l4 l5 l6
    rw [f_L_writeAll_b17]
    refine X_iload rfl rfl rfl ?_
    refine X_iload rfl rfl rfl ?_
    refine X_bicmp_ge rfl rfl (fun _ => ?_) (fun _ => ?_)
    · refine X_aload rfl rfl rfl ?_
      refine X_iload rfl rfl rfl ?_
      refine X_ald rfl rfl (fun v28 => ?_)
      refine X_istore rfl rfl rfl rfl ?_
      refine X_aload_n rfl rfl rfl ?_
      refine X_aload_n rfl rfl rfl ?_
      refine X_ldcG (i := 21) (tx := " ") rfl rfl (by decide +kernel) ?_
      refine X_kS_U (k1 := 0) (n1 := 0) (M' := M_L_write) (nA := 3) (As := [.ref l0, .ref l1, .ref (g_aK G 21)]) (st := []) rfl rfl (by decide +kernel) rfl rfl rfl rfl rfl rfl rfl (fun _ e => ct_L_write  e) (fun h35 => ?_)
      refine X_aload_n rfl rfl rfl ?_
      refine X_aload_n rfl rfl rfl ?_
      refine X_iload rfl rfl rfl ?_
      refine X_kS_U (k1 := 0) (n1 := 0) (M' := M_L_writeNumber) (nA := 3) (As := [.ref l0, .ref l1, .int v28]) (st := []) rfl rfl (by decide +kernel) rfl rfl rfl rfl rfl rfl rfl (fun _ e => ct_L_writeNumber  e) (fun h42 => ?_)
      refine X_iinc (v := l6 + 1) rfl rfl rfl (congrArg (fun z => l6 + z) (by decide : Int32.ofInt 1 = 1)) rfl ?_
      refine X_goto rfl rfl ?_
      exact X_sub (g_sub_s (g_sub_s (g_sub_n (g_sub_n (g_sub_s (g_sub_s (g_sub_s (g_sub_n g_sub_0)))))))) (ih _ _ _ _ _ _)
    · exact X_vret rfl rfl rfl rfl rfl rfl
set_option maxRecDepth 100000 in
theorem ct_L_writeAll {l : Launch} {G : gG} {h : gH} {p0 : Nat} {p1 : Nat} {p2 : Nat} {p3 : Nat} {h1 : gH} (e : f_L_writeAll G h p0 p1 p2 p3 = some h1) : Ct l G M_L_writeAll [.ref p0, .ref p1, .ref p2, .ref p3] h none h1 := by
  refine Ct_of (L := [some (.ref p0), some (.ref p1), some (.ref p2), some (.ref p3), none, none, none, none]) ok_L_writeAll (by decide +kernel) rfl rfl rfl (ρ := g_wU) (F := f_L_writeAll G h p0 p1 p2 p3) ?_ e rfl
  unfold f_L_writeAll
  refine X_aload_n rfl rfl rfl ?_
  refine X_aload_n rfl rfl rfl ?_
  refine X_aload_n rfl rfl rfl ?_
  refine X_kS_U (k1 := 0) (n1 := 0) (M' := M_L_write) (nA := 3) (As := [.ref p0, .ref p1, .ref p2]) (st := []) rfl rfl (by decide +kernel) rfl rfl rfl rfl rfl rfl rfl (fun _ e => ct_L_write  e) (fun h3 => ?_)
  refine X_aload_n rfl rfl rfl ?_
  refine X_astore rfl rfl rfl rfl ?_
  refine X_aload rfl rfl rfl ?_
  refine X_aln rfl rfl (fun v11 => ?_)
  refine X_istore rfl rfl rfl rfl ?_
  refine X_iconst (v := 0) rfl rfl (by decide) ?_
  refine X_istore rfl rfl rfl rfl ?_
  exact X_sub (g_sub_s (g_sub_s (g_sub_n (g_sub_n (g_sub_s (g_sub_s (g_sub_s (g_sub_n g_sub_0)))))))) (b_L_writeAll_b17 g_N _ _ _ _ _ _)
def f_L_randomWord_b36 (G : gG) : Nat → gH → Nat → Nat → Int32 → Option (Nat × gH)
  | 0, _, _, _, _ => none
  | n + 1, h, l0, l1, l2 =>
    (if 0 < l2 then
      (g_mk h (.inr (13, g_dfl 13))).bind fun h40 =>
      (f_T4_init_da8c8 G h40 h.1).bind fun h44 =>
      bif g_is h44 h.1 13 then
      (f_T4_append_15ec4 G h44 h.1 l1).bind fun y48 =>
      bif g_is y48.2 l0 11 then
      (f_X11_below G y48.2 l0 26).bind fun y56 =>
      bif g_is y56.2 y48.1 13 then
      (f_T4_append_cf468 G y56.2 y48.1 ((Int32.toUInt32 (97 + y56.1) % 65536).toInt32)).bind fun y61 =>
      bif g_is y61.2 y61.1 13 then
      (f_T4_toString_0e30d G y61.2 y61.1).bind fun y64 =>
      f_L_randomWord_b36 G n y64.2 l0 y64.1 (l2 + (-1))
      else none
      else none
      else none
      else none
    else
      some (l1, h))
def f_L_randomWord (G : gG) (h : gH) (p0 : Nat) : Option (Nat × gH) :=
  (g_mk h (.inr (13, g_dfl 13))).bind fun h0 =>
  (f_T4_init_da8c8 G h0 h.1).bind fun h4 =>
  bif g_is h4 h.1 13 then
  (f_T4_append_15ec4 G h4 h.1 (g_aK G 23)).bind fun y9 =>
  bif g_is y9.2 p0 11 then
  (f_X11_below G y9.2 p0 26).bind fun y17 =>
  bif g_is y17.2 y9.1 13 then
  (f_T4_append_cf468 G y17.2 y9.1 ((Int32.toUInt32 (97 + y17.1) % 65536).toInt32)).bind fun y22 =>
  bif g_is y22.2 y22.1 13 then
  (f_T4_toString_0e30d G y22.2 y22.1).bind fun y25 =>
  bif g_is y25.2 p0 11 then
  (f_X11_below G y25.2 p0 11).bind fun y32 =>
  f_L_randomWord_b36 G 12 y32.2 p0 y25.1 y32.1
  else none
  else none
  else none
  else none
  else none
set_option maxRecDepth 100000 in
theorem b_L_randomWord_b36 {l : Launch} {G : gG} : ∀ (n kb36 nb36 : Nat), kb36 + n * 4 ≤ 52 → nb36 + n * 40 ≤ 520 → ∀ (h : gH) (l0 : Nat) (l1 : Nat) (l2 : Int32), GX l G M_L_randomWord (g_phi G g_wA (m_R M_L_randomWord).cells (m_R M_L_randomWord).slots) kb36 nb36 36 [some (.ref l0), some (.ref l1), some (.int l2)] [] h (f_L_randomWord_b36 G n h l0 l1 l2) := by
  intro n
  induction n with
  | zero => intros; exact X_none
  | succ n ih =>
    intro kb36 nb36 hk0 hn0 h l0 l1 l2
    have hkb36 : kb36 + 4 ≤ 52 := by omega
    have hnb36 : nb36 + 40 ≤ 520 := by omega
    rw [f_L_randomWord_b36]
    refine X_iload_n rfl rfl rfl ?_
    refine X_bif_le rfl rfl (fun _ => ?_) (fun _ => ?_)
    · refine X_newO (k1 := kb36 + 1) (n1 := nb36 + 4) rfl rfl (by show kb36 + 1 = kb36 + 1; omega) (by show nb36 + 4 = nb36 + 4; omega) (X_ble (by show kb36 + 1 ≤ 52; omega)) (X_ble (by show nb36 + 4 ≤ 520; omega)) (fun h40 => ?_)
      refine X_dup rfl rfl rfl ?_
      refine X_kI_U (k1 := kb36 + 2) (n1 := nb36 + 20) (M' := M_T4_init_da8c8) (nA := 0) (As := []) (st := [.ref h.1]) (b := h.1) rfl rfl (by decide +kernel) rfl rfl rfl (by show kb36 + 1 + 1 = kb36 + 2; omega) (by show nb36 + 4 + 16 = nb36 + 20; omega) (X_ble (by show kb36 + 2 ≤ 52; omega)) (X_ble (by show nb36 + 20 ≤ 520; omega)) (fun _ e => ct_T4_init_da8c8  e) (fun h44 => ?_)
      refine X_aload_n rfl rfl rfl ?_
      refine X_kV_A (k1 := kb36 + 2) (n1 := nb36 + 20) (M' := M_T4_append_15ec4) (nA := 1) (As := [.ref l1]) (st := []) (b := h.1) (ci := 13) rfl rfl (by decide +kernel) rfl rfl rfl rfl (by show kb36 + 2 + 0 = kb36 + 2; omega) (by show nb36 + 20 + 0 = nb36 + 20; omega) (X_ble (by show kb36 + 2 ≤ 52; omega)) (X_ble (by show nb36 + 20 ≤ 520; omega)) (fun _ _ e => ct_T4_append_15ec4  e) (fun y48 => ?_)
      refine X_bipush (v := 97) rfl rfl (by decide) ?_
      refine X_aload_n rfl rfl rfl ?_
      refine X_bipush (v := 26) rfl rfl (by decide) ?_
      refine X_kV_I (k1 := kb36 + 2) (n1 := nb36 + 20) (M' := M_X11_below) (nA := 1) (As := [.int 26]) (st := [.int 97, .ref y48.1]) (b := l0) (ci := 11) rfl rfl (by decide +kernel) rfl rfl rfl rfl (by show kb36 + 2 + 0 = kb36 + 2; omega) (by show nb36 + 20 + 0 = nb36 + 20; omega) (X_ble (by show kb36 + 2 ≤ 52; omega)) (X_ble (by show nb36 + 20 ≤ 520; omega)) (fun _ _ e => ct_X11_below  e) (fun y56 => ?_)
      refine X_iadd rfl rfl ?_
      refine X_i2c (v := (Int32.toUInt32 (97 + y56.1) % 65536).toInt32) rfl rfl rfl ?_
      refine X_kV_A (k1 := kb36 + 2) (n1 := nb36 + 20) (M' := M_T4_append_cf468) (nA := 1) (As := [.int ((Int32.toUInt32 (97 + y56.1) % 65536).toInt32)]) (st := []) (b := y48.1) (ci := 13) rfl rfl (by decide +kernel) rfl rfl rfl rfl (by show kb36 + 2 + 0 = kb36 + 2; omega) (by show nb36 + 20 + 0 = nb36 + 20; omega) (X_ble (by show kb36 + 2 ≤ 52; omega)) (X_ble (by show nb36 + 20 ≤ 520; omega)) (fun _ _ e => ct_T4_append_cf468  e) (fun y61 => ?_)
      refine X_kV_A (k1 := kb36 + 4) (n1 := nb36 + 40) (M' := M_T4_toString_0e30d) (nA := 0) (As := []) (st := []) (b := y61.1) (ci := 13) rfl rfl (by decide +kernel) rfl rfl rfl rfl (by show kb36 + 2 + 2 = kb36 + 4; omega) (by show nb36 + 20 + 20 = nb36 + 40; omega) (X_ble (by show kb36 + 4 ≤ 52; omega)) (X_ble (by show nb36 + 40 ≤ 520; omega)) (fun _ _ e => ct_T4_toString_0e30d  e) (fun y64 => ?_)
      refine X_astore_n rfl rfl rfl rfl ?_
      refine X_iinc (v := l2 + (-1)) rfl rfl rfl (congrArg (fun z => l2 + z) (by decide : Int32.ofInt (-1) = (-1))) rfl ?_
      refine X_goto rfl rfl ?_
      refine X_wid (k' := kb36 + 4) (n' := nb36 + 40) (by omega) (by omega) ?_
      exact X_sub (g_sub_s (g_sub_s (g_sub_s g_sub_0))) (ih _ _ (by omega) (by omega) _ _ _ _)
    · refine X_aload_n rfl rfl rfl ?_
      exact X_aretA rfl rfl rfl rfl (X_ble (by show kb36 ≤ 52; omega)) (X_ble (by show nb36 ≤ 520; omega))
set_option maxRecDepth 100000 in
theorem ct_L_randomWord {l : Launch} {G : gG} {h : gH} {p0 : Nat} {r : Nat} {h1 : gH} (e : f_L_randomWord G h p0 = some (r, h1)) : Ct l G M_L_randomWord [.ref p0] h (some (.ref r)) h1 := by
  refine Ct_of (L := [some (.ref p0), none, none]) ok_L_randomWord (by decide +kernel) rfl rfl rfl (ρ := g_wA) (F := f_L_randomWord G h p0) ?_ e rfl
  unfold f_L_randomWord
  refine X_newO (k1 := 1) (n1 := 4) rfl rfl rfl (by decide +kernel) rfl rfl (fun h0 => ?_)
  refine X_dup rfl rfl rfl ?_
  refine X_kI_U (k1 := 2) (n1 := 20) (M' := M_T4_init_da8c8) (nA := 0) (As := []) (st := [.ref h.1]) (b := h.1) rfl rfl (by decide +kernel) rfl rfl rfl rfl rfl rfl rfl (fun _ e => ct_T4_init_da8c8  e) (fun h4 => ?_)
  refine X_ldcG (i := 23) (tx := "") rfl rfl (by decide +kernel) ?_
  refine X_kV_A (k1 := 2) (n1 := 20) (M' := M_T4_append_15ec4) (nA := 1) (As := [.ref (g_aK G 23)]) (st := []) (b := h.1) (ci := 13) rfl rfl (by decide +kernel) rfl rfl rfl rfl rfl rfl rfl rfl (fun _ _ e => ct_T4_append_15ec4  e) (fun y9 => ?_)
  refine X_bipush (v := 97) rfl rfl (by decide) ?_
  refine X_aload_n rfl rfl rfl ?_
  refine X_bipush (v := 26) rfl rfl (by decide) ?_
  refine X_kV_I (k1 := 2) (n1 := 20) (M' := M_X11_below) (nA := 1) (As := [.int 26]) (st := [.int 97, .ref y9.1]) (b := p0) (ci := 11) rfl rfl (by decide +kernel) rfl rfl rfl rfl rfl rfl rfl rfl (fun _ _ e => ct_X11_below  e) (fun y17 => ?_)
  refine X_iadd rfl rfl ?_
  refine X_i2c (v := (Int32.toUInt32 (97 + y17.1) % 65536).toInt32) rfl rfl rfl ?_
  refine X_kV_A (k1 := 2) (n1 := 20) (M' := M_T4_append_cf468) (nA := 1) (As := [.int ((Int32.toUInt32 (97 + y17.1) % 65536).toInt32)]) (st := []) (b := y9.1) (ci := 13) rfl rfl (by decide +kernel) rfl rfl rfl rfl rfl rfl rfl rfl (fun _ _ e => ct_T4_append_cf468  e) (fun y22 => ?_)
  refine X_kV_A (k1 := 4) (n1 := 40) (M' := M_T4_toString_0e30d) (nA := 0) (As := []) (st := []) (b := y22.1) (ci := 13) rfl rfl (by decide +kernel) rfl rfl rfl rfl rfl rfl rfl rfl (fun _ _ e => ct_T4_toString_0e30d  e) (fun y25 => ?_)
  refine X_astore_n rfl rfl rfl rfl ?_
  refine X_aload_n rfl rfl rfl ?_
  refine X_bipush (v := 11) rfl rfl (by decide) ?_
  refine X_kV_I (k1 := 4) (n1 := 40) (M' := M_X11_below) (nA := 1) (As := [.int 11]) (st := []) (b := p0) (ci := 11) rfl rfl (by decide +kernel) rfl rfl rfl rfl rfl rfl rfl rfl (fun _ _ e => ct_X11_below  e) (fun y32 => ?_)
  refine X_istore_n rfl rfl rfl rfl ?_
  exact X_sub (g_sub_s (g_sub_s (g_sub_s g_sub_0))) (b_L_randomWord_b36 12 _ _ (by omega) (by omega) _ _ _ _)
