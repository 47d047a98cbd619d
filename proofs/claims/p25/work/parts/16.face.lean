def f_X7_appendWord_b42 (K3 : gH → Nat → Int32 → Int32 → Option gH) (h : gH) (l0 : Nat) (l1 : Int32) (l2 : Int32) : Option gH :=
  K3 h l0 l1 (l2 + (-8))
def f_X7_appendWord_b3 : Nat → gH → Nat → Int32 → Int32 → Option gH
  | 0, _, _, _, _ => none
  | n + 1, h, l0, l1, l2 =>
    (if 0 ≤ l2 then
      (g_gI h l0 7 1).bind fun v8 =>
      (g_gA h l0 7 0).bind fun v12 =>
      (g_aln h v12).bind fun v15 =>
      (if v8 < v15 then
        (g_gA h l0 7 0).bind fun v20 =>
        (g_gI h l0 7 1).bind fun v24 =>
        (g_bst h v20 v24 ((Int32.toInt8 ((l1.toUInt32 >>> (l2.toUInt32 &&& Int32.toUInt32 31)).toInt32)).toInt32)).bind fun h31 =>
        (g_gI h31 l0 7 1).bind fun v34 =>
        (g_put h31 l0 7 1 (.int (v34 + 1))).bind fun h39 =>
        f_X7_appendWord_b42 (f_X7_appendWord_b3  n) h39 l0 l1 l2
      else
        f_X7_appendWord_b42 (f_X7_appendWord_b3  n) h l0 l1 l2)
    else
      some h)
def f_X7_appendWord (h : gH) (a0 : Nat) (p1 : Int32) : Option gH :=
  f_X7_appendWord_b3 g_N h a0 p1 24
set_option maxRecDepth 100000 in
theorem b_X7_appendWord_b42 {l : Launch} {G : gG} {K3 : gH → Nat → Int32 → Int32 → Option gH} (hK3 : ∀ (h : gH) (l0 : Nat) (l1 : Int32) (l2 : Int32), GX l G M_X7_appendWord (g_phi G g_wU (m_R M_X7_appendWord).cells (m_R M_X7_appendWord).slots) 0 0 3 [some (.ref l0), some (.int l1), some (.int l2)] [] h (K3 h l0 l1 l2)) (h : gH) (l0 : Nat) (l1 : Int32) (l2 : Int32) : GX l G M_X7_appendWord (g_phi G g_wU (m_R M_X7_appendWord).cells (m_R M_X7_appendWord).slots) 0 0 42 [some (.ref l0), some (.int l1), some (.int l2)] [] h (f_X7_appendWord_b42 K3 h l0 l1 l2) := by
  unfold f_X7_appendWord_b42
  refine X_iinc (v := l2 + (-8)) rfl rfl rfl (congrArg (fun z => l2 + z) (by decide : Int32.ofInt (-8) = (-8))) rfl ?_
  refine X_goto rfl rfl ?_
  exact X_sub (g_sub_s (g_sub_s (g_sub_s g_sub_0))) (hK3 _ _ _ _)
set_option maxRecDepth 100000 in
theorem b_X7_appendWord_b3 {l : Launch} {G : gG} : ∀ (n : Nat) (h : gH) (l0 : Nat) (l1 : Int32) (l2 : Int32), GX l G M_X7_appendWord (g_phi G g_wU (m_R M_X7_appendWord).cells (m_R M_X7_appendWord).slots) 0 0 3 [some (.ref l0), some (.int l1), some (.int l2)] [] h (f_X7_appendWord_b3 n h l0 l1 l2) := by
  intro n
  induction n with
  | zero => intros; exact X_none
  | succ n ih =>
    intro h l0 l1 l2
    rw [f_X7_appendWord_b3]
    refine X_iload_n rfl rfl rfl ?_
    refine X_bif_lt rfl rfl (fun _ => ?_) (fun _ => ?_)
    · refine X_aload_n rfl rfl rfl ?_
      refine X_getI rfl rfl (fun v8 => ?_)
      refine X_aload_n rfl rfl rfl ?_
      refine X_getA rfl rfl (fun v12 => ?_)
      refine X_aln rfl rfl (fun v15 => ?_)
      refine X_bicmp_ge rfl rfl (fun _ => ?_) (fun _ => ?_)
      · refine X_aload_n rfl rfl rfl ?_
        refine X_getA rfl rfl (fun v20 => ?_)
        refine X_aload_n rfl rfl rfl ?_
        refine X_getI rfl rfl (fun v24 => ?_)
        refine X_iload_n rfl rfl rfl ?_
        refine X_iload_n rfl rfl rfl ?_
        refine X_iushr rfl rfl ?_
        refine X_i2b rfl rfl ?_
        refine X_bst rfl rfl (fun h31 => ?_)
        refine X_aload_n rfl rfl rfl ?_
        refine X_dup rfl rfl rfl ?_
        refine X_getI rfl rfl (fun v34 => ?_)
        refine X_iconst (v := 1) rfl rfl (by decide) ?_
        refine X_iadd rfl rfl ?_
        refine X_put rfl rfl rfl rfl rfl (fun h39 => ?_)
        exact X_sub (g_sub_s (g_sub_s (g_sub_s g_sub_0))) (b_X7_appendWord_b42 ih _ _ _ _)
      · exact X_sub (g_sub_s (g_sub_s (g_sub_s g_sub_0))) (b_X7_appendWord_b42 ih _ _ _ _)
    · exact X_vret rfl rfl rfl rfl rfl rfl
set_option maxRecDepth 100000 in
theorem ct_X7_appendWord {l : Launch} {G : gG} {h : gH} {a0 : Nat} {p1 : Int32} {h1 : gH} (e : f_X7_appendWord h a0 p1 = some h1) : Ct l G M_X7_appendWord [.ref a0, .int p1] h none h1 := by
  refine Ct_of (L := [some (.ref a0), some (.int p1), none]) ok_X7_appendWord (by decide +kernel) rfl rfl rfl (ρ := g_wU) (F := f_X7_appendWord h a0 p1) ?_ e rfl
  unfold f_X7_appendWord
  refine X_bipush (v := 24) rfl rfl (by decide) ?_
  refine X_istore_n rfl rfl rfl rfl ?_
  exact X_sub (g_sub_s (g_sub_s (g_sub_s g_sub_0))) (b_X7_appendWord_b3  _ _ _ _ _)
def f_X7_append (h : gH) (a0 : Nat) (p1 : Int32) (p2 : Int32) (p3 : Int32) (p4 : Int32) (p5 : Int32) : Option (Int32 × gH) :=
  (g_gI h a0 7 1).bind fun v1 =>
  (if 500 < (v1 + 20) then
    some (-1, h)
  else
    bif g_is h a0 7 then
    (f_X7_appendWord h a0 p1).bind fun h17 =>
    bif g_is h17 a0 7 then
    (f_X7_appendWord h17 a0 p2).bind fun h22 =>
    bif g_is h22 a0 7 then
    (f_X7_appendWord h22 a0 p3).bind fun h27 =>
    bif g_is h27 a0 7 then
    (f_X7_appendWord h27 a0 p4).bind fun h33 =>
    bif g_is h33 a0 7 then
    (f_X7_appendWord h33 a0 p5).bind fun h39 =>
    (g_gI h39 a0 7 1).bind fun v43 =>
    some (v43, h39)
    else none
    else none
    else none
    else none
    else none)
set_option maxRecDepth 100000 in
theorem ct_X7_append {l : Launch} {G : gG} {h : gH} {a0 : Nat} {p1 : Int32} {p2 : Int32} {p3 : Int32} {p4 : Int32} {p5 : Int32} {r : Int32} {h1 : gH} (e : f_X7_append h a0 p1 p2 p3 p4 p5 = some (r, h1)) : Ct l G M_X7_append [.ref a0, .int p1, .int p2, .int p3, .int p4, .int p5] h (some (.int r)) h1 := by
  refine Ct_of (L := [some (.ref a0), some (.int p1), some (.int p2), some (.int p3), some (.int p4), some (.int p5)]) ok_X7_append (by decide +kernel) rfl rfl rfl (ρ := g_wI) (F := f_X7_append h a0 p1 p2 p3 p4 p5) ?_ e rfl
  unfold f_X7_append
  refine X_aload_n rfl rfl rfl ?_
  refine X_getI rfl rfl (fun v1 => ?_)
  refine X_bipush (v := 20) rfl rfl (by decide) ?_
  refine X_iadd rfl rfl ?_
  refine X_sipush (v := 500) rfl rfl (by decide) ?_
  refine X_bicmp_le rfl rfl (fun _ => ?_) (fun _ => ?_)
  · refine X_iconst (v := -1) rfl rfl (by decide) ?_
    exact X_iret rfl rfl rfl rfl rfl rfl rfl
  · refine X_aload_n rfl rfl rfl ?_
    refine X_iload_n rfl rfl rfl ?_
    refine X_callV_UW (M' := M_X7_appendWord) (nA := 1) (As := [.int p1]) (st := []) (b := a0) (ci := 7) rfl rfl (by decide +kernel) rfl rfl rfl rfl rfl rfl rfl rfl (fun _ e => ct_X7_appendWord e) (fun h17 => ?_)
    refine X_aload_n rfl rfl rfl ?_
    refine X_iload_n rfl rfl rfl ?_
    refine X_callV_UW (M' := M_X7_appendWord) (nA := 1) (As := [.int p2]) (st := []) (b := a0) (ci := 7) rfl rfl (by decide +kernel) rfl rfl rfl rfl rfl rfl rfl rfl (fun _ e => ct_X7_appendWord e) (fun h22 => ?_)
    refine X_aload_n rfl rfl rfl ?_
    refine X_iload_n rfl rfl rfl ?_
    refine X_callV_UW (M' := M_X7_appendWord) (nA := 1) (As := [.int p3]) (st := []) (b := a0) (ci := 7) rfl rfl (by decide +kernel) rfl rfl rfl rfl rfl rfl rfl rfl (fun _ e => ct_X7_appendWord e) (fun h27 => ?_)
    refine X_aload_n rfl rfl rfl ?_
    refine X_iload rfl rfl rfl ?_
    refine X_callV_UW (M' := M_X7_appendWord) (nA := 1) (As := [.int p4]) (st := []) (b := a0) (ci := 7) rfl rfl (by decide +kernel) rfl rfl rfl rfl rfl rfl rfl rfl (fun _ e => ct_X7_appendWord e) (fun h33 => ?_)
    refine X_aload_n rfl rfl rfl ?_
    refine X_iload rfl rfl rfl ?_
    refine X_callV_UW (M' := M_X7_appendWord) (nA := 1) (As := [.int p5]) (st := []) (b := a0) (ci := 7) rfl rfl (by decide +kernel) rfl rfl rfl rfl rfl rfl rfl rfl (fun _ e => ct_X7_appendWord e) (fun h39 => ?_)
    refine X_aload_n rfl rfl rfl ?_
    refine X_getI rfl rfl (fun v43 => ?_)
    exact X_iret rfl rfl rfl rfl rfl rfl rfl
def f_X7_load_b12 (h : gH) : Option ((Nat ⊕ Int32) × gH) :=
  some (.inl 1, h)
def f_X7_load (h : gH) (a0 : Nat) (p1 : Int32) : Option ((Nat ⊕ Int32) × gH) :=
  (if 0 ≤ p1 then
    (g_gI h a0 7 1).bind fun v6 =>
    (if v6 < p1 then
      f_X7_load_b12 h
    else
      (g_put h a0 7 1 (.int 0)).bind fun h24 =>
      (g_mk h24 (.inr (5, g_dfl 5))).bind fun h27 =>
      (g_gA h27 a0 7 0).bind fun v32 =>
      (f_X5_init h27 h24.1 v32 p1).bind fun h36 =>
      (g_gA h36 a0 7 4).bind fun v42 =>
      bif g_is h36 h24.1 5 then
      (f_X5_readInto h36 h24.1 v42).bind fun y45 =>
      (if y45.1 = 0 then
        (g_gI y45.2 h24.1 5 6).bind fun v53 =>
        (g_put y45.2 a0 7 2 (.int v53)).bind fun h56 =>
        (g_gI h56 h24.1 5 5).bind fun v60 =>
        some (.inr v60, h56)
      else
        (g_put y45.2 a0 7 2 (.int (-1))).bind fun h66 =>
        (g_gA h66 a0 7 5).bind fun v70 =>
        (g_gA h66 a0 7 3).bind fun v74 =>
        bif g_is h66 v70 1 then
        (f_X1_keep h66 v70 v74).bind fun h77 =>
        (g_gA h77 a0 7 3).bind fun v81 =>
        (g_gA h77 a0 7 4).bind fun v85 =>
        bif g_is h77 v81 6 then
        (f_X6_copyFrom h77 v81 v85).bind fun h88 =>
        (g_gA h88 a0 7 3).bind fun v92 =>
        (g_gI h88 v92 6 1).bind fun v95 =>
        some (.inr v95, h88)
        else none
        else none)
      else none)
  else
    f_X7_load_b12 h)
set_option maxRecDepth 100000 in
theorem b_X7_load_b12 {l : Launch} {G : gG} (hl : l.stackTraces = false) (h : gH) : GX l G M_X7_load (g_phx G g_xI (m_R M_X7_load).cells (m_R M_X7_load).slots) 0 0 12 [none, none, none] [] h (f_X7_load_b12 h) := by
  unfold f_X7_load_b12
  exact X_thr (is := 43) (i := 5) (tx := "length") thr_1 hl rfl (by decide +kernel) (by decide) rfl (by decide) rfl rfl rfl rfl rfl rfl rfl rfl
set_option maxRecDepth 100000 in
theorem ct_X7_load {l : Launch} {G : gG} {h : gH} {a0 : Nat} {p1 : Int32} (hl : l.stackTraces = false) {o : Nat ⊕ Int32} {h1 : gH} (e : f_X7_load h a0 p1 = some (o, h1)) : Cx l G M_X7_load [.ref a0, .int p1] h (g_xI (o, h1)).1 h1 := by
  refine Cx_of (L := [some (.ref a0), some (.int p1), none]) ok_X7_load (by decide +kernel) rfl rfl rfl rfl (ρ := g_xI) (F := f_X7_load h a0 p1) ?_ e rfl
  unfold f_X7_load
  refine X_iload_n rfl rfl rfl ?_
  refine X_bif_lt rfl rfl (fun _ => ?_) (fun _ => ?_)
  · refine X_iload_n rfl rfl rfl ?_
    refine X_aload_n rfl rfl rfl ?_
    refine X_getI rfl rfl (fun v6 => ?_)
    refine X_bicmp_le rfl rfl (fun _ => ?_) (fun _ => ?_)
    · exact X_sub (g_sub_n (g_sub_n (g_sub_n g_sub_0))) (b_X7_load_b12 hl _)
    · refine X_aload_n rfl rfl rfl ?_
      refine X_iconst (v := 0) rfl rfl (by decide) ?_
      refine X_put rfl rfl rfl rfl rfl (fun h24 => ?_)
      refine X_newO (k1 := 1) (n1 := 7) rfl rfl rfl (by decide +kernel) rfl rfl (fun h27 => ?_)
      refine X_dup rfl rfl rfl ?_
      refine X_aload_n rfl rfl rfl ?_
      refine X_getA rfl rfl (fun v32 => ?_)
      refine X_iload_n rfl rfl rfl ?_
      refine X_callI_U (M' := M_X5_init) (nA := 2) (As := [.ref v32, .int p1]) (st := [.ref h24.1]) (b := h24.1) (k1 := 1) (n1 := 7) rfl rfl (by decide +kernel) rfl rfl rfl rfl rfl rfl rfl (fun _ e => ct_X5_init e) (fun h36 => ?_)
      refine X_astore_n rfl rfl rfl rfl ?_
      refine X_aload_n rfl rfl rfl ?_
      refine X_aload_n rfl rfl rfl ?_
      refine X_getA rfl rfl (fun v42 => ?_)
      refine X_callV_IW (M' := M_X5_readInto) (nA := 1) (As := [.ref v42]) (st := []) (b := (h24.1)) (ci := 5) rfl rfl (by decide +kernel) rfl rfl rfl rfl rfl rfl rfl rfl (fun _ _ e => ct_X5_readInto e) (fun y45 => ?_)
      refine X_bif_ne rfl rfl (fun _ => ?_) (fun _ => ?_)
      · refine X_aload_n rfl rfl rfl ?_
        refine X_aload_n rfl rfl rfl ?_
        refine X_getI rfl rfl (fun v53 => ?_)
        refine X_put rfl rfl rfl rfl rfl (fun h56 => ?_)
        refine X_aload_n rfl rfl rfl ?_
        refine X_getI rfl rfl (fun v60 => ?_)
        exact X_vx rfl (X_iret rfl rfl rfl rfl rfl rfl rfl)
      · refine X_aload_n rfl rfl rfl ?_
        refine X_iconst (v := -1) rfl rfl (by decide) ?_
        refine X_put rfl rfl rfl rfl rfl (fun h66 => ?_)
        refine X_aload_n rfl rfl rfl ?_
        refine X_getA rfl rfl (fun v70 => ?_)
        refine X_aload_n rfl rfl rfl ?_
        refine X_getA rfl rfl (fun v74 => ?_)
        refine X_callV_UW (M' := M_X1_keep) (nA := 1) (As := [.ref v74]) (st := []) (b := v70) (ci := 1) rfl rfl (by decide +kernel) rfl rfl rfl rfl rfl rfl rfl rfl (fun _ e => ct_X1_keep e) (fun h77 => ?_)
        refine X_aload_n rfl rfl rfl ?_
        refine X_getA rfl rfl (fun v81 => ?_)
        refine X_aload_n rfl rfl rfl ?_
        refine X_getA rfl rfl (fun v85 => ?_)
        refine X_callV_UW (M' := M_X6_copyFrom) (nA := 1) (As := [.ref v85]) (st := []) (b := v81) (ci := 6) rfl rfl (by decide +kernel) rfl rfl rfl rfl rfl rfl rfl rfl (fun _ e => ct_X6_copyFrom e) (fun h88 => ?_)
        refine X_aload_n rfl rfl rfl ?_
        refine X_getA rfl rfl (fun v92 => ?_)
        refine X_getI rfl rfl (fun v95 => ?_)
        exact X_vx rfl (X_iret rfl rfl rfl rfl rfl rfl rfl)
  · exact X_sub (g_sub_n (g_sub_n (g_sub_n g_sub_0))) (b_X7_load_b12 hl _)
def f_X7_errorOffset (h : gH) (a0 : Nat) : Option (Int32) :=
  (g_gI h a0 7 2).bind fun v1 =>
  some v1
set_option maxRecDepth 100000 in
theorem ct_X7_errorOffset {l : Launch} {G : gG} {h : gH} {a0 : Nat} {r : Int32} (e : f_X7_errorOffset h a0 = some r) : Ct l G M_X7_errorOffset [.ref a0] h (some (.int r)) h := by
  refine Ct_of (L := [some (.ref a0)]) ok_X7_errorOffset (by decide +kernel) rfl rfl rfl (ρ := (g_rI h)) (F := f_X7_errorOffset h a0) ?_ e rfl
  unfold f_X7_errorOffset
  refine X_aload_n rfl rfl rfl ?_
  refine X_getI rfl rfl (fun v1 => ?_)
  exact X_iret rfl rfl rfl rfl rfl rfl rfl
def f_X7_state (h : gH) (a0 : Nat) (p1 : Int32) : Option ((Nat ⊕ Int32) × gH) :=
  (if (f_X7_isWithin p1 0 12) = 0 then
    some (.inl 1, h)
  else
    (g_gA h a0 7 3).bind fun v21 =>
    bif g_is h v21 6 then
    (f_X6_figure h v21 p1).bind fun v25 =>
    some (.inr v25, h)
    else none)
set_option maxRecDepth 100000 in
theorem ct_X7_state {l : Launch} {G : gG} {h : gH} {a0 : Nat} {p1 : Int32} (hl : l.stackTraces = false) {o : Nat ⊕ Int32} {h1 : gH} (e : f_X7_state h a0 p1 = some (o, h1)) : Cx l G M_X7_state [.ref a0, .int p1] h (g_xI (o, h1)).1 h1 := by
  refine Cx_of (L := [some (.ref a0), some (.int p1)]) ok_X7_state (by decide +kernel) rfl rfl rfl rfl (ρ := g_xI) (F := f_X7_state h a0 p1) ?_ e rfl
  unfold f_X7_state
  refine X_iload_n rfl rfl rfl ?_
  refine X_iconst (v := 0) rfl rfl (by decide) ?_
  refine X_bipush (v := 12) rfl rfl (by decide) ?_
  refine X_callS_IP (v := f_X7_isWithin p1 0 12) (M' := M_X7_isWithin) (nA := 3) (As := [.int p1, .int 0, .int 12]) (st := []) rfl rfl (by decide +kernel) rfl rfl rfl rfl rfl rfl rfl ct_X7_isWithin ?_
  refine X_bif_ne rfl rfl (fun _ => ?_) (fun _ => ?_)
  · exact X_thr (is := 77) (i := 6) (tx := "what") thr_1 hl rfl (by decide +kernel) (by decide) rfl (by decide) rfl rfl rfl rfl rfl rfl rfl rfl
  · refine X_aload_n rfl rfl rfl ?_
    refine X_getA rfl rfl (fun v21 => ?_)
    refine X_iload_n rfl rfl rfl ?_
    refine X_callV_IR (M' := M_X6_figure) (nA := 1) (As := [.int p1]) (st := []) (b := v21) (ci := 6) rfl rfl (by decide +kernel) rfl rfl rfl rfl rfl rfl rfl rfl (fun _ e => ct_X6_figure e) (fun v25 => ?_)
    exact X_vx rfl (X_iret rfl rfl rfl rfl rfl rfl rfl)
def f_X7_channel (h : gH) (a0 : Nat) (p1 : Int32) (p2 : Int32) : Option ((Nat ⊕ Int32) × gH) :=
  (if (f_X7_isWithin p1 0 1) = 0 then
    some (.inl 2, h)
  else
    (if (f_X7_isWithin p2 0 5) = 0 then
      some (.inl 1, h)
    else
      (g_gA h a0 7 3).bind fun v39 =>
      bif g_is h v39 6 then
      (f_X6_channelNumbered h v39 p1).bind fun v43 =>
      (g_gA h a0 7 3).bind fun v48 =>
      (g_gI h v48 6 0).bind fun v51 =>
      bif g_is h v43 0 then
      (f_X0_figure h v43 p2 v51).bind fun v54 =>
      some (.inr v54, h)
      else none
      else none))
set_option maxRecDepth 100000 in
theorem ct_X7_channel {l : Launch} {G : gG} {h : gH} {a0 : Nat} {p1 : Int32} {p2 : Int32} (hl : l.stackTraces = false) {o : Nat ⊕ Int32} {h1 : gH} (e : f_X7_channel h a0 p1 p2 = some (o, h1)) : Cx l G M_X7_channel [.ref a0, .int p1, .int p2] h (g_xI (o, h1)).1 h1 := by
  refine Cx_of (L := [some (.ref a0), some (.int p1), some (.int p2)]) ok_X7_channel (by decide +kernel) rfl rfl rfl rfl (ρ := g_xI) (F := f_X7_channel h a0 p1 p2) ?_ e rfl
  unfold f_X7_channel
  refine X_iload_n rfl rfl rfl ?_
  refine X_iconst (v := 0) rfl rfl (by decide) ?_
  refine X_iconst (v := 1) rfl rfl (by decide) ?_
  refine X_callS_IP (v := f_X7_isWithin p1 0 1) (M' := M_X7_isWithin) (nA := 3) (As := [.int p1, .int 0, .int 1]) (st := []) rfl rfl (by decide +kernel) rfl rfl rfl rfl rfl rfl rfl ct_X7_isWithin ?_
  refine X_bif_ne rfl rfl (fun _ => ?_) (fun _ => ?_)
  · exact X_thr (is := 85) (i := 7) (tx := "channel") thr_2 hl rfl (by decide +kernel) (by decide) rfl (by decide) rfl rfl rfl rfl rfl rfl rfl rfl
  · refine X_iload_n rfl rfl rfl ?_
    refine X_iconst (v := 0) rfl rfl (by decide) ?_
    refine X_iconst (v := 5) rfl rfl (by decide) ?_
    refine X_callS_IP (v := f_X7_isWithin p2 0 5) (M' := M_X7_isWithin) (nA := 3) (As := [.int p2, .int 0, .int 5]) (st := []) rfl rfl (by decide +kernel) rfl rfl rfl rfl rfl rfl rfl ct_X7_isWithin ?_
    refine X_bif_ne rfl rfl (fun _ => ?_) (fun _ => ?_)
    · exact X_thr (is := 77) (i := 6) (tx := "what") thr_1 hl rfl (by decide +kernel) (by decide) rfl (by decide) rfl rfl rfl rfl rfl rfl rfl rfl
    · refine X_aload_n rfl rfl rfl ?_
      refine X_getA rfl rfl (fun v39 => ?_)
      refine X_iload_n rfl rfl rfl ?_
      refine X_callV_AR (M' := M_X6_channelNumbered) (nA := 1) (As := [.int p1]) (st := []) (b := v39) (ci := 6) rfl rfl (by decide +kernel) rfl rfl rfl rfl rfl rfl rfl rfl (fun _ e => ct_X6_channelNumbered e) (fun v43 => ?_)
      refine X_iload_n rfl rfl rfl ?_
      refine X_aload_n rfl rfl rfl ?_
      refine X_getA rfl rfl (fun v48 => ?_)
      refine X_getI rfl rfl (fun v51 => ?_)
      refine X_callV_IR (M' := M_X0_figure) (nA := 2) (As := [.int p2, .int v51]) (st := []) (b := v43) (ci := 0) rfl rfl (by decide +kernel) rfl rfl rfl rfl rfl rfl rfl rfl (fun _ e => ct_X0_figure e) (fun v54 => ?_)
      exact X_vx rfl (X_iret rfl rfl rfl rfl rfl rfl rfl)
def f_X7_message (h : gH) (a0 : Nat) (p1 : Int32) (p2 : Int32) : Option ((Nat ⊕ Int32) × gH) :=
  (g_gA h a0 7 3).bind fun v1 =>
  bif g_is h v1 6 then
  (f_X6_hasMessage h v1 p1).bind fun v5 =>
  (if v5 = 0 then
    some (.inl 2, h)
  else
    (if (f_X7_isWithin p2 0 9) = 0 then
      some (.inl 1, h)
    else
      (g_gA h a0 7 3).bind fun v42 =>
      bif g_is h v42 6 then
      (f_X6_messageNumbered h v42 p1).bind fun v46 =>
      bif g_is h v46 3 then
      (f_X3_figure h v46 p2).bind fun v50 =>
      some (.inr v50, h)
      else none
      else none))
  else none
set_option maxRecDepth 100000 in
theorem ct_X7_message {l : Launch} {G : gG} {h : gH} {a0 : Nat} {p1 : Int32} {p2 : Int32} (hl : l.stackTraces = false) {o : Nat ⊕ Int32} {h1 : gH} (e : f_X7_message h a0 p1 p2 = some (o, h1)) : Cx l G M_X7_message [.ref a0, .int p1, .int p2] h (g_xI (o, h1)).1 h1 := by
  refine Cx_of (L := [some (.ref a0), some (.int p1), some (.int p2)]) ok_X7_message (by decide +kernel) rfl rfl rfl rfl (ρ := g_xI) (F := f_X7_message h a0 p1 p2) ?_ e rfl
  unfold f_X7_message
  refine X_aload_n rfl rfl rfl ?_
  refine X_getA rfl rfl (fun v1 => ?_)
  refine X_iload_n rfl rfl rfl ?_
  refine X_callV_IR (M' := M_X6_hasMessage) (nA := 1) (As := [.int p1]) (st := []) (b := v1) (ci := 6) rfl rfl (by decide +kernel) rfl rfl rfl rfl rfl rfl rfl rfl (fun _ e => ct_X6_hasMessage e) (fun v5 => ?_)
  refine X_bif_ne rfl rfl (fun _ => ?_) (fun _ => ?_)
  · exact X_thr (is := 104) (i := 8) (tx := "message") thr_2 hl rfl (by decide +kernel) (by decide) rfl (by decide) rfl rfl rfl rfl rfl rfl rfl rfl
  · refine X_iload_n rfl rfl rfl ?_
    refine X_iconst (v := 0) rfl rfl (by decide) ?_
    refine X_bipush (v := 9) rfl rfl (by decide) ?_
    refine X_callS_IP (v := f_X7_isWithin p2 0 9) (M' := M_X7_isWithin) (nA := 3) (As := [.int p2, .int 0, .int 9]) (st := []) rfl rfl (by decide +kernel) rfl rfl rfl rfl rfl rfl rfl ct_X7_isWithin ?_
    refine X_bif_ne rfl rfl (fun _ => ?_) (fun _ => ?_)
    · exact X_thr (is := 77) (i := 6) (tx := "what") thr_1 hl rfl (by decide +kernel) (by decide) rfl (by decide) rfl rfl rfl rfl rfl rfl rfl rfl
    · refine X_aload_n rfl rfl rfl ?_
      refine X_getA rfl rfl (fun v42 => ?_)
      refine X_iload_n rfl rfl rfl ?_
      refine X_callV_AR (M' := M_X6_messageNumbered) (nA := 1) (As := [.int p1]) (st := []) (b := v42) (ci := 6) rfl rfl (by decide +kernel) rfl rfl rfl rfl rfl rfl rfl rfl (fun _ e => ct_X6_messageNumbered e) (fun v46 => ?_)
      refine X_iload_n rfl rfl rfl ?_
      refine X_callV_IR (M' := M_X3_figure) (nA := 1) (As := [.int p2]) (st := []) (b := v46) (ci := 3) rfl rfl (by decide +kernel) rfl rfl rfl rfl rfl rfl rfl rfl (fun _ e => ct_X3_figure e) (fun v50 => ?_)
      exact X_vx rfl (X_iret rfl rfl rfl rfl rfl rfl rfl)
def f_X7_letter (h : gH) (a0 : Nat) (p1 : Int32) (p2 : Int32) (p3 : Int32) : Option ((Nat ⊕ Int32) × gH) :=
  (g_gA h a0 7 3).bind fun v1 =>
  bif g_is h v1 6 then
  (f_X6_hasMessage h v1 p1).bind fun v5 =>
  (if v5 = 0 then
    some (.inl 2, h)
  else
    (g_gA h a0 7 3).bind fun v22 =>
    bif g_is h v22 6 then
    (f_X6_messageNumbered h v22 p1).bind fun v26 =>
    bif g_is h v26 3 then
    (f_X3_hasPlace h v26 p2).bind fun v34 =>
    (if v34 = 0 then
      some (.inl 3, h)
    else
      (if p3 = 0 then
        bif g_is h v26 3 then
        (f_X3_letterAt h v26 p2).bind fun v66 =>
        some (.inr v66, h)
        else none
      else
        bif g_is h v26 3 then
        (f_X3_loggedAt h v26 p2).bind fun v57 =>
        some (.inr v57, h)
        else none))
    else none
    else none)
  else none
set_option maxRecDepth 100000 in
theorem ct_X7_letter {l : Launch} {G : gG} {h : gH} {a0 : Nat} {p1 : Int32} {p2 : Int32} {p3 : Int32} (hl : l.stackTraces = false) {o : Nat ⊕ Int32} {h1 : gH} (e : f_X7_letter h a0 p1 p2 p3 = some (o, h1)) : Cx l G M_X7_letter [.ref a0, .int p1, .int p2, .int p3] h (g_xI (o, h1)).1 h1 := by
  refine Cx_of (L := [some (.ref a0), some (.int p1), some (.int p2), some (.int p3), none]) ok_X7_letter (by decide +kernel) rfl rfl rfl rfl (ρ := g_xI) (F := f_X7_letter h a0 p1 p2 p3) ?_ e rfl
  unfold f_X7_letter
  refine X_aload_n rfl rfl rfl ?_
  refine X_getA rfl rfl (fun v1 => ?_)
  refine X_iload_n rfl rfl rfl ?_
  refine X_callV_IR (M' := M_X6_hasMessage) (nA := 1) (As := [.int p1]) (st := []) (b := v1) (ci := 6) rfl rfl (by decide +kernel) rfl rfl rfl rfl rfl rfl rfl rfl (fun _ e => ct_X6_hasMessage e) (fun v5 => ?_)
  refine X_bif_ne rfl rfl (fun _ => ?_) (fun _ => ?_)
  · exact X_thr (is := 104) (i := 8) (tx := "message") thr_2 hl rfl (by decide +kernel) (by decide) rfl (by decide) rfl rfl rfl rfl rfl rfl rfl rfl
  · refine X_aload_n rfl rfl rfl ?_
    refine X_getA rfl rfl (fun v22 => ?_)
    refine X_iload_n rfl rfl rfl ?_
    refine X_callV_AR (M' := M_X6_messageNumbered) (nA := 1) (As := [.int p1]) (st := []) (b := v22) (ci := 6) rfl rfl (by decide +kernel) rfl rfl rfl rfl rfl rfl rfl rfl (fun _ e => ct_X6_messageNumbered e) (fun v26 => ?_)
    refine X_astore rfl rfl rfl rfl ?_
    refine X_aload rfl rfl rfl ?_
    refine X_iload_n rfl rfl rfl ?_
    refine X_callV_IR (M' := M_X3_hasPlace) (nA := 1) (As := [.int p2]) (st := []) (b := v26) (ci := 3) rfl rfl (by decide +kernel) rfl rfl rfl rfl rfl rfl rfl rfl (fun _ e => ct_X3_hasPlace e) (fun v34 => ?_)
    refine X_bif_ne rfl rfl (fun _ => ?_) (fun _ => ?_)
    · exact X_thrN (is := 118) (i := 9) (tx := "k") hl rfl (by decide +kernel) (by decide) rfl (by decide) rfl rfl rfl rfl rfl rfl rfl rfl
    · refine X_iload_n rfl rfl rfl ?_
      refine X_bif_eq rfl rfl (fun _ => ?_) (fun _ => ?_)
      · refine X_aload rfl rfl rfl ?_
        refine X_iload_n rfl rfl rfl ?_
        refine X_callV_IR (M' := M_X3_letterAt) (nA := 1) (As := [.int p2]) (st := []) (b := v26) (ci := 3) rfl rfl (by decide +kernel) rfl rfl rfl rfl rfl rfl rfl rfl (fun _ e => ct_X3_letterAt e) (fun v66 => ?_)
        exact X_vx rfl (X_iret rfl rfl rfl rfl rfl rfl rfl)
      · refine X_aload rfl rfl rfl ?_
        refine X_iload_n rfl rfl rfl ?_
        refine X_callV_IR (M' := M_X3_loggedAt) (nA := 1) (As := [.int p2]) (st := []) (b := v26) (ci := 3) rfl rfl (by decide +kernel) rfl rfl rfl rfl rfl rfl rfl rfl (fun _ e => ct_X3_loggedAt e) (fun v57 => ?_)
        refine X_goto rfl rfl ?_
        exact X_vx rfl (X_iret rfl rfl rfl rfl rfl rfl rfl)
def f_X7_why (h : gH) (a0 : Nat) (p1 : Int32) (p2 : Int32) : Option ((Nat ⊕ Int32) × gH) :=
  (g_gA h a0 7 3).bind fun v1 =>
  bif g_is h v1 6 then
  (f_X6_hasMessage h v1 p1).bind fun v5 =>
  (if v5 = 0 then
    some (.inl 2, h)
  else
    (g_gA h a0 7 3).bind fun v22 =>
    bif g_is h v22 6 then
    (f_X6_messageNumbered h v22 p1).bind fun v26 =>
    bif g_is h v26 3 then
    (f_X3_hasPlace h v26 p2).bind fun v32 =>
    (if v32 = 0 then
      some (.inl 3, h)
    else
      bif g_is h v26 3 then
      (f_X3_reasonAt h v26 p2).bind fun v50 =>
      some (.inr v50, h)
      else none)
    else none
    else none)
  else none
set_option maxRecDepth 100000 in
theorem ct_X7_why {l : Launch} {G : gG} {h : gH} {a0 : Nat} {p1 : Int32} {p2 : Int32} (hl : l.stackTraces = false) {o : Nat ⊕ Int32} {h1 : gH} (e : f_X7_why h a0 p1 p2 = some (o, h1)) : Cx l G M_X7_why [.ref a0, .int p1, .int p2] h (g_xI (o, h1)).1 h1 := by
  refine Cx_of (L := [some (.ref a0), some (.int p1), some (.int p2), none]) ok_X7_why (by decide +kernel) rfl rfl rfl rfl (ρ := g_xI) (F := f_X7_why h a0 p1 p2) ?_ e rfl
  unfold f_X7_why
  refine X_aload_n rfl rfl rfl ?_
  refine X_getA rfl rfl (fun v1 => ?_)
  refine X_iload_n rfl rfl rfl ?_
  refine X_callV_IR (M' := M_X6_hasMessage) (nA := 1) (As := [.int p1]) (st := []) (b := v1) (ci := 6) rfl rfl (by decide +kernel) rfl rfl rfl rfl rfl rfl rfl rfl (fun _ e => ct_X6_hasMessage e) (fun v5 => ?_)
  refine X_bif_ne rfl rfl (fun _ => ?_) (fun _ => ?_)
  · exact X_thr (is := 104) (i := 8) (tx := "message") thr_2 hl rfl (by decide +kernel) (by decide) rfl (by decide) rfl rfl rfl rfl rfl rfl rfl rfl
  · refine X_aload_n rfl rfl rfl ?_
    refine X_getA rfl rfl (fun v22 => ?_)
    refine X_iload_n rfl rfl rfl ?_
    refine X_callV_AR (M' := M_X6_messageNumbered) (nA := 1) (As := [.int p1]) (st := []) (b := v22) (ci := 6) rfl rfl (by decide +kernel) rfl rfl rfl rfl rfl rfl rfl rfl (fun _ e => ct_X6_messageNumbered e) (fun v26 => ?_)
    refine X_astore_n rfl rfl rfl rfl ?_
    refine X_aload_n rfl rfl rfl ?_
    refine X_iload_n rfl rfl rfl ?_
    refine X_callV_IR (M' := M_X3_hasPlace) (nA := 1) (As := [.int p2]) (st := []) (b := v26) (ci := 3) rfl rfl (by decide +kernel) rfl rfl rfl rfl rfl rfl rfl rfl (fun _ e => ct_X3_hasPlace e) (fun v32 => ?_)
    refine X_bif_ne rfl rfl (fun _ => ?_) (fun _ => ?_)
    · exact X_thrN (is := 118) (i := 9) (tx := "k") hl rfl (by decide +kernel) (by decide) rfl (by decide) rfl rfl rfl rfl rfl rfl rfl rfl
    · refine X_aload_n rfl rfl rfl ?_
      refine X_iload_n rfl rfl rfl ?_
      refine X_callV_IR (M' := M_X3_reasonAt) (nA := 1) (As := [.int p2]) (st := []) (b := v26) (ci := 3) rfl rfl (by decide +kernel) rfl rfl rfl rfl rfl rfl rfl rfl (fun _ e => ct_X3_reasonAt e) (fun v50 => ?_)
      exact X_vx rfl (X_iret rfl rfl rfl rfl rfl rfl rfl)
def f_X7_mist (h : gH) (a0 : Nat) (p1 : Int32) : Option ((Nat ⊕ Int32) × gH) :=
  (if (f_X7_isWithin p1 0 20000) = 0 then
    some (.inl 1, h)
  else
    (g_gA h a0 7 3).bind fun v22 =>
    (g_gA h v22 6 15).bind fun v25 =>
    bif g_is h v25 4 then
    (f_X4_levelAt h v25 p1).bind fun v29 =>
    some (.inr v29, h)
    else none)
set_option maxRecDepth 100000 in
theorem ct_X7_mist {l : Launch} {G : gG} {h : gH} {a0 : Nat} {p1 : Int32} (hl : l.stackTraces = false) {o : Nat ⊕ Int32} {h1 : gH} (e : f_X7_mist h a0 p1 = some (o, h1)) : Cx l G M_X7_mist [.ref a0, .int p1] h (g_xI (o, h1)).1 h1 := by
  refine Cx_of (L := [some (.ref a0), some (.int p1)]) ok_X7_mist (by decide +kernel) rfl rfl rfl rfl (ρ := g_xI) (F := f_X7_mist h a0 p1) ?_ e rfl
  unfold f_X7_mist
  refine X_iload_n rfl rfl rfl ?_
  refine X_iconst (v := 0) rfl rfl (by decide) ?_
  refine X_sipush (v := 20000) rfl rfl (by decide) ?_
  refine X_callS_IP (v := f_X7_isWithin p1 0 20000) (M' := M_X7_isWithin) (nA := 3) (As := [.int p1, .int 0, .int 20000]) (st := []) rfl rfl (by decide +kernel) rfl rfl rfl rfl rfl rfl rfl ct_X7_isWithin ?_
  refine X_bif_ne rfl rfl (fun _ => ?_) (fun _ => ?_)
  · exact X_thr (is := 130) (i := 10) (tx := "tick") thr_1 hl rfl (by decide +kernel) (by decide) rfl (by decide) rfl rfl rfl rfl rfl rfl rfl rfl
  · refine X_aload_n rfl rfl rfl ?_
    refine X_getA rfl rfl (fun v22 => ?_)
    refine X_getA rfl rfl (fun v25 => ?_)
    refine X_iload_n rfl rfl rfl ?_
    refine X_callV_IR (M' := M_X4_levelAt) (nA := 1) (As := [.int p1]) (st := []) (b := v25) (ci := 4) rfl rfl (by decide +kernel) rfl rfl rfl rfl rfl rfl rfl rfl (fun _ e => ct_X4_levelAt e) (fun v29 => ?_)
    exact X_vx rfl (X_iret rfl rfl rfl rfl rfl rfl rfl)
def f_X7_key (h : gH) (a0 : Nat) (p1 : Int32) (p2 : Int32) : Option ((Nat ⊕ Int32) × gH) :=
  (if (f_X7_isWithin p1 0 1) = 0 then
    some (.inl 2, h)
  else
    (if (f_X7_isWithin p2 0 20000) = 0 then
      some (.inl 1, h)
    else
      (g_gA h a0 7 3).bind fun v41 =>
      bif g_is h v41 6 then
      (f_X6_keepersOf h v41 p1).bind fun v45 =>
      bif g_is h v45 2 then
      (f_X2_keyAt h v45 p2).bind fun v49 =>
      some (.inr v49, h)
      else none
      else none))
set_option maxRecDepth 100000 in
theorem ct_X7_key {l : Launch} {G : gG} {h : gH} {a0 : Nat} {p1 : Int32} {p2 : Int32} (hl : l.stackTraces = false) {o : Nat ⊕ Int32} {h1 : gH} (e : f_X7_key h a0 p1 p2 = some (o, h1)) : Cx l G M_X7_key [.ref a0, .int p1, .int p2] h (g_xI (o, h1)).1 h1 := by
  refine Cx_of (L := [some (.ref a0), some (.int p1), some (.int p2)]) ok_X7_key (by decide +kernel) rfl rfl rfl rfl (ρ := g_xI) (F := f_X7_key h a0 p1 p2) ?_ e rfl
  unfold f_X7_key
  refine X_iload_n rfl rfl rfl ?_
  refine X_iconst (v := 0) rfl rfl (by decide) ?_
  refine X_iconst (v := 1) rfl rfl (by decide) ?_
  refine X_callS_IP (v := f_X7_isWithin p1 0 1) (M' := M_X7_isWithin) (nA := 3) (As := [.int p1, .int 0, .int 1]) (st := []) rfl rfl (by decide +kernel) rfl rfl rfl rfl rfl rfl rfl ct_X7_isWithin ?_
  refine X_bif_ne rfl rfl (fun _ => ?_) (fun _ => ?_)
  · exact X_thr (is := 141) (i := 11) (tx := "station") thr_2 hl rfl (by decide +kernel) (by decide) rfl (by decide) rfl rfl rfl rfl rfl rfl rfl rfl
  · refine X_iload_n rfl rfl rfl ?_
    refine X_iconst (v := 0) rfl rfl (by decide) ?_
    refine X_sipush (v := 20000) rfl rfl (by decide) ?_
    refine X_callS_IP (v := f_X7_isWithin p2 0 20000) (M' := M_X7_isWithin) (nA := 3) (As := [.int p2, .int 0, .int 20000]) (st := []) rfl rfl (by decide +kernel) rfl rfl rfl rfl rfl rfl rfl ct_X7_isWithin ?_
    refine X_bif_ne rfl rfl (fun _ => ?_) (fun _ => ?_)
    · exact X_thr (is := 130) (i := 10) (tx := "tick") thr_1 hl rfl (by decide +kernel) (by decide) rfl (by decide) rfl rfl rfl rfl rfl rfl rfl rfl
    · refine X_aload_n rfl rfl rfl ?_
      refine X_getA rfl rfl (fun v41 => ?_)
      refine X_iload_n rfl rfl rfl ?_
      refine X_callV_AR (M' := M_X6_keepersOf) (nA := 1) (As := [.int p1]) (st := []) (b := v41) (ci := 6) rfl rfl (by decide +kernel) rfl rfl rfl rfl rfl rfl rfl rfl (fun _ e => ct_X6_keepersOf e) (fun v45 => ?_)
      refine X_iload_n rfl rfl rfl ?_
      refine X_callV_IR (M' := M_X2_keyAt) (nA := 1) (As := [.int p2]) (st := []) (b := v45) (ci := 2) rfl rfl (by decide +kernel) rfl rfl rfl rfl rfl rfl rfl rfl (fun _ e => ct_X2_keyAt e) (fun v49 => ?_)
      exact X_vx rfl (X_iret rfl rfl rfl rfl rfl rfl rfl)
def f_X7_next (h : gH) (a0 : Nat) (p1 : Int32) : Option ((Nat ⊕ Int32) × gH) :=
  (g_gA h a0 7 3).bind fun v1 =>
  bif g_is h v1 6 then
  (f_X6_servedAs h v1 p1).bind fun v5 =>
  (if v5 = (-1) then
    some (.inl 3, h)
  else
    some (.inr v5, h))
  else none
set_option maxRecDepth 100000 in
theorem ct_X7_next {l : Launch} {G : gG} {h : gH} {a0 : Nat} {p1 : Int32} (hl : l.stackTraces = false) {o : Nat ⊕ Int32} {h1 : gH} (e : f_X7_next h a0 p1 = some (o, h1)) : Cx l G M_X7_next [.ref a0, .int p1] h (g_xI (o, h1)).1 h1 := by
  refine Cx_of (L := [some (.ref a0), some (.int p1), none]) ok_X7_next (by decide +kernel) rfl rfl rfl rfl (ρ := g_xI) (F := f_X7_next h a0 p1) ?_ e rfl
  unfold f_X7_next
  refine X_aload_n rfl rfl rfl ?_
  refine X_getA rfl rfl (fun v1 => ?_)
  refine X_iload_n rfl rfl rfl ?_
  refine X_callV_IR (M' := M_X6_servedAs) (nA := 1) (As := [.int p1]) (st := []) (b := v1) (ci := 6) rfl rfl (by decide +kernel) rfl rfl rfl rfl rfl rfl rfl rfl (fun _ e => ct_X6_servedAs e) (fun v5 => ?_)
  refine X_istore_n rfl rfl rfl rfl ?_
  refine X_iload_n rfl rfl rfl ?_
  refine X_iconst (v := -1) rfl rfl (by decide) ?_
  refine X_bicmp_ne rfl rfl (fun _ => ?_) (fun _ => ?_)
  · exact X_thrN (is := 118) (i := 9) (tx := "k") hl rfl (by decide +kernel) (by decide) rfl (by decide) rfl rfl rfl rfl rfl rfl rfl rfl
  · refine X_iload_n rfl rfl rfl ?_
    exact X_vx rfl (X_iret rfl rfl rfl rfl rfl rfl rfl)
def f_X7_foretold (h : gH) (a0 : Nat) (p1 : Int32) : Option ((Nat ⊕ Int32) × gH) :=
  (if (f_X7_isWithin p1 0 2) = 0 then
    some (.inl 1, h)
  else
    (g_gA h a0 7 4).bind fun v20 =>
    (g_gA h a0 7 3).bind fun v24 =>
    bif g_is h v20 6 then
    (f_X6_copyFrom h v20 v24).bind fun h27 =>
    (g_gA h27 a0 7 4).bind fun v31 =>
    bif g_is h27 v31 6 then
    (f_X6_letForetoldTicksPass h27 v31 0).bind fun y35 =>
    (if p1 = 0 then
      (g_gA y35.2 a0 7 4).bind fun v69 =>
      bif g_is y35.2 v69 6 then
      (f_X6_isBusy y35.2 v69).bind fun v72 =>
      (if v72 = 0 then
        (g_gA y35.2 a0 7 4).bind fun v83 =>
        (g_gI y35.2 v83 6 0).bind fun v86 =>
        (g_gA y35.2 a0 7 3).bind fun v90 =>
        (g_gI y35.2 v90 6 0).bind fun v93 =>
        some (.inr (v86 - v93), y35.2)
      else
        some (.inr (-1), y35.2))
      else none
    else
      (if p1 = 1 then
        (g_gA y35.2 a0 7 4).bind fun v99 =>
        bif g_is y35.2 v99 6 then
        (f_X6_agreeing y35.2 v99).bind fun v102 =>
        some (.inr v102, y35.2)
        else none
      else
        (g_gA y35.2 a0 7 4).bind fun v107 =>
        (g_gI y35.2 v107 6 8).bind fun v110 =>
        (g_gA y35.2 a0 7 3).bind fun v114 =>
        (g_gI y35.2 v114 6 8).bind fun v117 =>
        some (.inr (v110 - v117), y35.2)))
    else none
    else none)
set_option maxRecDepth 100000 in
theorem ct_X7_foretold {l : Launch} {G : gG} {h : gH} {a0 : Nat} {p1 : Int32} (hl : l.stackTraces = false) {o : Nat ⊕ Int32} {h1 : gH} (e : f_X7_foretold h a0 p1 = some (o, h1)) : Cx l G M_X7_foretold [.ref a0, .int p1] h (g_xI (o, h1)).1 h1 := by
  refine Cx_of (L := [some (.ref a0), some (.int p1)]) ok_X7_foretold (by decide +kernel) rfl rfl rfl rfl (ρ := g_xI) (F := f_X7_foretold h a0 p1) ?_ e rfl
  unfold f_X7_foretold
  refine X_iload_n rfl rfl rfl ?_
  refine X_iconst (v := 0) rfl rfl (by decide) ?_
  refine X_iconst (v := 2) rfl rfl (by decide) ?_
  refine X_callS_IP (v := f_X7_isWithin p1 0 2) (M' := M_X7_isWithin) (nA := 3) (As := [.int p1, .int 0, .int 2]) (st := []) rfl rfl (by decide +kernel) rfl rfl rfl rfl rfl rfl rfl ct_X7_isWithin ?_
  refine X_bif_ne rfl rfl (fun _ => ?_) (fun _ => ?_)
  · exact X_thr (is := 77) (i := 6) (tx := "what") thr_1 hl rfl (by decide +kernel) (by decide) rfl (by decide) rfl rfl rfl rfl rfl rfl rfl rfl
  · refine X_aload_n rfl rfl rfl ?_
    refine X_getA rfl rfl (fun v20 => ?_)
    refine X_aload_n rfl rfl rfl ?_
    refine X_getA rfl rfl (fun v24 => ?_)
    refine X_callV_UW (M' := M_X6_copyFrom) (nA := 1) (As := [.ref v24]) (st := []) (b := v20) (ci := 6) rfl rfl (by decide +kernel) rfl rfl rfl rfl rfl rfl rfl rfl (fun _ e => ct_X6_copyFrom e) (fun h27 => ?_)
    refine X_aload_n rfl rfl rfl ?_
    refine X_getA rfl rfl (fun v31 => ?_)
    refine X_iconst (v := 0) rfl rfl (by decide) ?_
    refine X_callV_IW (M' := M_X6_letForetoldTicksPass) (nA := 1) (As := [.int 0]) (st := []) (b := v31) (ci := 6) rfl rfl (by decide +kernel) rfl rfl rfl rfl rfl rfl rfl rfl (fun _ _ e => ct_X6_letForetoldTicksPass e) (fun y35 => ?_)
    refine X_pop rfl rfl rfl ?_
    refine X_iload_n rfl rfl rfl ?_
    refine X_if (fun c40_0 => ?_) (fun c40_0 => ?_)
    · refine X_rfl (st' := .int 0 :: []) (by rw [c40_0]) ?_
      refine X_lsw (len := 28) (off := 28) (tgt := 68) rfl rfl (by decide) rfl rfl ?_
      refine X_aload_n rfl rfl rfl ?_
      refine X_getA rfl rfl (fun v69 => ?_)
      refine X_callV_IR (M' := M_X6_isBusy) (nA := 0) (As := []) (st := []) (b := v69) (ci := 6) rfl rfl (by decide +kernel) rfl rfl rfl rfl rfl rfl rfl rfl (fun _ e => ct_X6_isBusy e) (fun v72 => ?_)
      refine X_bif_eq rfl rfl (fun _ => ?_) (fun _ => ?_)
      · refine X_aload_n rfl rfl rfl ?_
        refine X_getA rfl rfl (fun v83 => ?_)
        refine X_getI rfl rfl (fun v86 => ?_)
        refine X_aload_n rfl rfl rfl ?_
        refine X_getA rfl rfl (fun v90 => ?_)
        refine X_getI rfl rfl (fun v93 => ?_)
        refine X_isub rfl rfl ?_
        exact X_vx rfl (X_iret rfl rfl rfl rfl rfl rfl rfl)
      · refine X_iconst (v := -1) rfl rfl (by decide) ?_
        refine X_goto rfl rfl ?_
        exact X_vx rfl (X_iret rfl rfl rfl rfl rfl rfl rfl)
    · refine X_if (fun c40_1 => ?_) (fun c40_1 => ?_)
      · refine X_rfl (st' := .int 1 :: []) (by rw [c40_1]) ?_
        refine X_lsw (len := 28) (off := 58) (tgt := 98) rfl rfl (by decide) rfl rfl ?_
        refine X_aload_n rfl rfl rfl ?_
        refine X_getA rfl rfl (fun v99 => ?_)
        refine X_callV_IR (M' := M_X6_agreeing) (nA := 0) (As := []) (st := []) (b := v99) (ci := 6) rfl rfl (by decide +kernel) rfl rfl rfl rfl rfl rfl rfl rfl (fun _ e => ct_X6_agreeing e) (fun v102 => ?_)
        exact X_vx rfl (X_iret rfl rfl rfl rfl rfl rfl rfl)
      · refine X_lsw (len := 28) (off := 66) (tgt := 106) rfl rfl (by decide) (by rw [lv_osw c40_0 (show Int32.toInt (0) = 0 by decide)]; rw [lv_osw c40_1 (show Int32.toInt (1) = 1 by decide)]; rfl) rfl ?_
        refine X_aload_n rfl rfl rfl ?_
        refine X_getA rfl rfl (fun v107 => ?_)
        refine X_getI rfl rfl (fun v110 => ?_)
        refine X_aload_n rfl rfl rfl ?_
        refine X_getA rfl rfl (fun v114 => ?_)
        refine X_getI rfl rfl (fun v117 => ?_)
        refine X_isub rfl rfl ?_
        exact X_vx rfl (X_iret rfl rfl rfl rfl rfl rfl rfl)
def f_X7_leastPower_b33 : Nat → gH → Nat → Int32 → Int32 → Option ((Nat ⊕ Int32) × gH)
  | 0, _, _, _, _ => none
  | n + 1, h, l0, l1, l2 =>
    (if l2 ≤ 9 then
      (g_gA h l0 7 4).bind fun v40 =>
      (g_gA h l0 7 3).bind fun v44 =>
      bif g_is h v40 6 then
      (f_X6_copyFrom h v40 v44).bind fun h47 =>
      (g_gA h47 l0 7 4).bind fun v51 =>
      bif g_is h47 v51 6 then
      (f_X6_channelNumbered h47 v51 l1).bind fun v55 =>
      (g_put h47 v55 0 0 (.int l2)).bind fun h59 =>
      (g_gA h59 l0 7 4).bind fun v63 =>
      bif g_is h59 v63 6 then
      (f_X6_letForetoldTicksPass h59 v63 1).bind fun y67 =>
      (if y67.1 = 0 then
        f_X7_leastPower_b33  n y67.2 l0 l1 (l2 + 1)
      else
        some (.inr l2, y67.2))
      else none
      else none
      else none
    else
      some (.inr (-1), h))
def f_X7_leastPower (h : gH) (a0 : Nat) (p1 : Int32) : Option ((Nat ⊕ Int32) × gH) :=
  (if (f_X7_isWithin p1 0 1) = 0 then
    some (.inl 2, h)
  else
    (g_gA h a0 7 3).bind fun v20 =>
    bif g_is h v20 6 then
    (f_X6_isBusy h v20).bind fun v23 =>
    (if v23 = 0 then
      some (.inr 0, h)
    else
      f_X7_leastPower_b33 g_N h a0 p1 0)
    else none)
set_option maxRecDepth 100000 in
theorem b_X7_leastPower_b33 {l : Launch} {G : gG} (hl : l.stackTraces = false) : ∀ (n : Nat) (h : gH) (l0 : Nat) (l1 : Int32) (l2 : Int32), GX l G M_X7_leastPower (g_phx G g_xI (m_R M_X7_leastPower).cells (m_R M_X7_leastPower).slots) 0 0 33 [some (.ref l0), some (.int l1), some (.int l2)] [] h (f_X7_leastPower_b33 n h l0 l1 l2) := by
  intro n
  induction n with
  | zero => intros; exact X_none
  | succ n ih =>
    intro h l0 l1 l2
    rw [f_X7_leastPower_b33]
    refine X_iload_n rfl rfl rfl ?_
    refine X_bipush (v := 9) rfl rfl (by decide) ?_
    refine X_bicmp_gt rfl rfl (fun _ => ?_) (fun _ => ?_)
    · refine X_aload_n rfl rfl rfl ?_
      refine X_getA rfl rfl (fun v40 => ?_)
      refine X_aload_n rfl rfl rfl ?_
      refine X_getA rfl rfl (fun v44 => ?_)
      refine X_callV_UW (M' := M_X6_copyFrom) (nA := 1) (As := [.ref v44]) (st := []) (b := v40) (ci := 6) rfl rfl (by decide +kernel) rfl rfl rfl rfl rfl rfl rfl rfl (fun _ e => ct_X6_copyFrom e) (fun h47 => ?_)
      refine X_aload_n rfl rfl rfl ?_
      refine X_getA rfl rfl (fun v51 => ?_)
      refine X_iload_n rfl rfl rfl ?_
      refine X_callV_AR (M' := M_X6_channelNumbered) (nA := 1) (As := [.int l1]) (st := []) (b := v51) (ci := 6) rfl rfl (by decide +kernel) rfl rfl rfl rfl rfl rfl rfl rfl (fun _ e => ct_X6_channelNumbered e) (fun v55 => ?_)
      refine X_iload_n rfl rfl rfl ?_
      refine X_put rfl rfl rfl rfl rfl (fun h59 => ?_)
      refine X_aload_n rfl rfl rfl ?_
      refine X_getA rfl rfl (fun v63 => ?_)
      refine X_iconst (v := 1) rfl rfl (by decide) ?_
      refine X_callV_IW (M' := M_X6_letForetoldTicksPass) (nA := 1) (As := [.int 1]) (st := []) (b := v63) (ci := 6) rfl rfl (by decide +kernel) rfl rfl rfl rfl rfl rfl rfl rfl (fun _ _ e => ct_X6_letForetoldTicksPass e) (fun y67 => ?_)
      refine X_bif_eq rfl rfl (fun _ => ?_) (fun _ => ?_)
      · refine X_iinc (v := l2 + 1) rfl rfl rfl (congrArg (fun z => l2 + z) (by decide : Int32.ofInt 1 = 1)) rfl ?_
        refine X_goto rfl rfl ?_
        exact X_sub (g_sub_s (g_sub_s (g_sub_s g_sub_0))) (ih _ _ _ _)
      · refine X_iload_n rfl rfl rfl ?_
        exact X_vx rfl (X_iret rfl rfl rfl rfl rfl rfl rfl)
    · refine X_iconst (v := -1) rfl rfl (by decide) ?_
      exact X_vx rfl (X_iret rfl rfl rfl rfl rfl rfl rfl)
set_option maxRecDepth 100000 in
theorem ct_X7_leastPower {l : Launch} {G : gG} {h : gH} {a0 : Nat} {p1 : Int32} (hl : l.stackTraces = false) {o : Nat ⊕ Int32} {h1 : gH} (e : f_X7_leastPower h a0 p1 = some (o, h1)) : Cx l G M_X7_leastPower [.ref a0, .int p1] h (g_xI (o, h1)).1 h1 := by
  refine Cx_of (L := [some (.ref a0), some (.int p1), none]) ok_X7_leastPower (by decide +kernel) rfl rfl rfl rfl (ρ := g_xI) (F := f_X7_leastPower h a0 p1) ?_ e rfl
  unfold f_X7_leastPower
  refine X_iload_n rfl rfl rfl ?_
  refine X_iconst (v := 0) rfl rfl (by decide) ?_
  refine X_iconst (v := 1) rfl rfl (by decide) ?_
  refine X_callS_IP (v := f_X7_isWithin p1 0 1) (M' := M_X7_isWithin) (nA := 3) (As := [.int p1, .int 0, .int 1]) (st := []) rfl rfl (by decide +kernel) rfl rfl rfl rfl rfl rfl rfl ct_X7_isWithin ?_
  refine X_bif_ne rfl rfl (fun _ => ?_) (fun _ => ?_)
  · exact X_thr (is := 85) (i := 7) (tx := "channel") thr_2 hl rfl (by decide +kernel) (by decide) rfl (by decide) rfl rfl rfl rfl rfl rfl rfl rfl
  · refine X_aload_n rfl rfl rfl ?_
    refine X_getA rfl rfl (fun v20 => ?_)
    refine X_callV_IR (M' := M_X6_isBusy) (nA := 0) (As := []) (st := []) (b := v20) (ci := 6) rfl rfl (by decide +kernel) rfl rfl rfl rfl rfl rfl rfl rfl (fun _ e => ct_X6_isBusy e) (fun v23 => ?_)
    refine X_bif_ne rfl rfl (fun _ => ?_) (fun _ => ?_)
    · refine X_iconst (v := 0) rfl rfl (by decide) ?_
      exact X_vx rfl (X_iret rfl rfl rfl rfl rfl rfl rfl)
    · refine X_iconst (v := 0) rfl rfl (by decide) ?_
      refine X_istore_n rfl rfl rfl rfl ?_
      exact X_sub (g_sub_s (g_sub_s (g_sub_s g_sub_0))) (b_X7_leastPower_b33 hl _ _ _ _ _)
def f_X7_pass_b54 (K35 : gH → Nat → Int32 → Int32 → Int32 → Option ((Nat ⊕ Int32) × gH)) (h : gH) (l0 : Nat) (l1 : Int32) (l2 : Int32) (l3 : Int32) : Option ((Nat ⊕ Int32) × gH) :=
  K35 h l0 l1 l2 (l3 + 1)
def f_X7_pass_b35 : Nat → gH → Nat → Int32 → Int32 → Int32 → Option ((Nat ⊕ Int32) × gH)
  | 0, _, _, _, _, _ => none
  | n + 1, h, l0, l1, l2, l3 =>
    (if l3 < l1 then
      (g_gA h l0 7 3).bind fun v41 =>
      bif g_is h v41 6 then
      (f_X6_letTickPass h v41).bind fun y44 =>
      (if y44.1 = (-1) then
        f_X7_pass_b54 (f_X7_pass_b35  n) y44.2 l0 l1 l2 l3
      else
        f_X7_pass_b54 (f_X7_pass_b35  n) y44.2 l0 l1 (l2 + 1) l3)
      else none
    else
      some (.inr l2, h))
def f_X7_pass (h : gH) (a0 : Nat) (p1 : Int32) : Option ((Nat ⊕ Int32) × gH) :=
  (if (f_X7_isWithin p1 1 100) = 0 then
    some (.inl 1, h)
  else
    (g_gA h a0 7 5).bind fun v21 =>
    (g_gA h a0 7 3).bind fun v25 =>
    bif g_is h v21 1 then
    (f_X1_keep h v21 v25).bind fun h28 =>
    f_X7_pass_b35 g_N h28 a0 p1 0 0
    else none)
set_option maxRecDepth 100000 in
theorem b_X7_pass_b54 {l : Launch} {G : gG} (hl : l.stackTraces = false) {K35 : gH → Nat → Int32 → Int32 → Int32 → Option ((Nat ⊕ Int32) × gH)} (hK35 : ∀ (h : gH) (l0 : Nat) (l1 : Int32) (l2 : Int32) (l3 : Int32), GX l G M_X7_pass (g_phx G g_xI (m_R M_X7_pass).cells (m_R M_X7_pass).slots) 0 0 35 [some (.ref l0), some (.int l1), some (.int l2), some (.int l3)] [] h (K35 h l0 l1 l2 l3)) (h : gH) (l0 : Nat) (l1 : Int32) (l2 : Int32) (l3 : Int32) : GX l G M_X7_pass (g_phx G g_xI (m_R M_X7_pass).cells (m_R M_X7_pass).slots) 0 0 54 [some (.ref l0), some (.int l1), some (.int l2), some (.int l3)] [] h (f_X7_pass_b54 K35 h l0 l1 l2 l3) := by
  unfold f_X7_pass_b54
  refine X_iinc (v := l3 + 1) rfl rfl rfl (congrArg (fun z => l3 + z) (by decide : Int32.ofInt 1 = 1)) rfl ?_
  refine X_goto rfl rfl ?_
  exact X_sub (g_sub_s (g_sub_s (g_sub_s (g_sub_s g_sub_0)))) (hK35 _ _ _ _ _)
set_option maxRecDepth 100000 in
theorem b_X7_pass_b35 {l : Launch} {G : gG} (hl : l.stackTraces = false) : ∀ (n : Nat) (h : gH) (l0 : Nat) (l1 : Int32) (l2 : Int32) (l3 : Int32), GX l G M_X7_pass (g_phx G g_xI (m_R M_X7_pass).cells (m_R M_X7_pass).slots) 0 0 35 [some (.ref l0), some (.int l1), some (.int l2), some (.int l3)] [] h (f_X7_pass_b35 n h l0 l1 l2 l3) := by
  intro n
  induction n with
  | zero => intros; exact X_none
  | succ n ih =>
    intro h l0 l1 l2 l3
    rw [f_X7_pass_b35]
    refine X_iload_n rfl rfl rfl ?_
    refine X_iload_n rfl rfl rfl ?_
    refine X_bicmp_ge rfl rfl (fun _ => ?_) (fun _ => ?_)
    · refine X_aload_n rfl rfl rfl ?_
      refine X_getA rfl rfl (fun v41 => ?_)
      refine X_callV_IW (M' := M_X6_letTickPass) (nA := 0) (As := []) (st := []) (b := v41) (ci := 6) rfl rfl (by decide +kernel) rfl rfl rfl rfl rfl rfl rfl rfl (fun _ _ e => ct_X6_letTickPass e) (fun y44 => ?_)
      refine X_iconst (v := -1) rfl rfl (by decide) ?_
      refine X_bicmp_eq rfl rfl (fun _ => ?_) (fun _ => ?_)
      · exact X_sub (g_sub_s (g_sub_s (g_sub_s (g_sub_s g_sub_0)))) (b_X7_pass_b54 hl ih _ _ _ _ _)
      · refine X_iinc (v := l2 + 1) rfl rfl rfl (congrArg (fun z => l2 + z) (by decide : Int32.ofInt 1 = 1)) rfl ?_
        exact X_sub (g_sub_s (g_sub_s (g_sub_s (g_sub_s g_sub_0)))) (b_X7_pass_b54 hl ih _ _ _ _ _)
    · refine X_iload_n rfl rfl rfl ?_
      exact X_vx rfl (X_iret rfl rfl rfl rfl rfl rfl rfl)
set_option maxRecDepth 100000 in
theorem ct_X7_pass {l : Launch} {G : gG} {h : gH} {a0 : Nat} {p1 : Int32} (hl : l.stackTraces = false) {o : Nat ⊕ Int32} {h1 : gH} (e : f_X7_pass h a0 p1 = some (o, h1)) : Cx l G M_X7_pass [.ref a0, .int p1] h (g_xI (o, h1)).1 h1 := by
  refine Cx_of (L := [some (.ref a0), some (.int p1), none, none]) ok_X7_pass (by decide +kernel) rfl rfl rfl rfl (ρ := g_xI) (F := f_X7_pass h a0 p1) ?_ e rfl
  unfold f_X7_pass
  refine X_iload_n rfl rfl rfl ?_
  refine X_iconst (v := 1) rfl rfl (by decide) ?_
  refine X_bipush (v := 100) rfl rfl (by decide) ?_
  refine X_callS_IP (v := f_X7_isWithin p1 1 100) (M' := M_X7_isWithin) (nA := 3) (As := [.int p1, .int 1, .int 100]) (st := []) rfl rfl (by decide +kernel) rfl rfl rfl rfl rfl rfl rfl ct_X7_isWithin ?_
  refine X_bif_ne rfl rfl (fun _ => ?_) (fun _ => ?_)
  · exact X_thr (is := 182) (i := 12) (tx := "ticks") thr_1 hl rfl (by decide +kernel) (by decide) rfl (by decide) rfl rfl rfl rfl rfl rfl rfl rfl
  · refine X_aload_n rfl rfl rfl ?_
    refine X_getA rfl rfl (fun v21 => ?_)
    refine X_aload_n rfl rfl rfl ?_
    refine X_getA rfl rfl (fun v25 => ?_)
    refine X_callV_UW (M' := M_X1_keep) (nA := 1) (As := [.ref v25]) (st := []) (b := v21) (ci := 1) rfl rfl (by decide +kernel) rfl rfl rfl rfl rfl rfl rfl rfl (fun _ e => ct_X1_keep e) (fun h28 => ?_)
    refine X_iconst (v := 0) rfl rfl (by decide) ?_
    refine X_istore_n rfl rfl rfl rfl ?_
    refine X_iconst (v := 0) rfl rfl (by decide) ?_
    refine X_istore_n rfl rfl rfl rfl ?_
    exact X_sub (g_sub_s (g_sub_s (g_sub_s (g_sub_s g_sub_0)))) (b_X7_pass_b35 hl _ _ _ _ _ _)
def f_X7_buffersLetters_b22 (h : gH) : Nat → Nat → Int32 → Int32 → Option (Int32)
  | 0, _, _, _ => none
  | n + 1, l0, l1, l2 =>
    (if l2 < l1 then
      (g_gA h l0 7 0).bind fun v29 =>
      (g_aln h v29).bind fun v32 =>
      (if l2 < v32 then
        (g_gA h l0 7 0).bind fun v37 =>
        (g_bld h v37 l2).bind fun v41 =>
        (if (f_X7_isWithin v41 97 122) = 0 then
          some 0
        else
          f_X7_buffersLetters_b22 h n l0 l1 (l2 + 1))
      else
        some 1)
    else
      some 1)
def f_X7_buffersLetters (h : gH) (a0 : Nat) (p1 : Int32) : Option (Int32) :=
  (if (f_X7_isWithin p1 1 24) = 0 then
    some 0
  else
    (g_gI h a0 7 1).bind fun v12 =>
    (if v12 < p1 then
      some 0
    else
      f_X7_buffersLetters_b22 h g_N a0 p1 0))
set_option maxRecDepth 100000 in
theorem b_X7_buffersLetters_b22 {l : Launch} {G : gG} {h : gH} : ∀ (n : Nat) (l0 : Nat) (l1 : Int32) (l2 : Int32), GX l G M_X7_buffersLetters (g_phi G (g_rI h) (m_R M_X7_buffersLetters).cells (m_R M_X7_buffersLetters).slots) 0 0 22 [some (.ref l0), some (.int l1), some (.int l2)] [] h (f_X7_buffersLetters_b22 h n l0 l1 l2) := by
  intro n
  induction n with
  | zero => intros; exact X_none
  | succ n ih =>
    intro l0 l1 l2
    rw [f_X7_buffersLetters_b22]
    refine X_iload_n rfl rfl rfl ?_
    refine X_iload_n rfl rfl rfl ?_
    refine X_bicmp_ge rfl rfl (fun _ => ?_) (fun _ => ?_)
    · refine X_iload_n rfl rfl rfl ?_
      refine X_aload_n rfl rfl rfl ?_
      refine X_getA rfl rfl (fun v29 => ?_)
      refine X_aln rfl rfl (fun v32 => ?_)
      refine X_bicmp_ge rfl rfl (fun _ => ?_) (fun _ => ?_)
      · refine X_aload_n rfl rfl rfl ?_
        refine X_getA rfl rfl (fun v37 => ?_)
        refine X_iload_n rfl rfl rfl ?_
        refine X_bld rfl rfl (fun v41 => ?_)
        refine X_bipush (v := 97) rfl rfl (by decide) ?_
        refine X_bipush (v := 122) rfl rfl (by decide) ?_
        refine X_callS_IP (v := f_X7_isWithin v41 97 122) (M' := M_X7_isWithin) (nA := 3) (As := [.int v41, .int 97, .int 122]) (st := []) rfl rfl (by decide +kernel) rfl rfl rfl rfl rfl rfl rfl ct_X7_isWithin ?_
        refine X_bif_ne rfl rfl (fun _ => ?_) (fun _ => ?_)
        · refine X_iconst (v := 0) rfl rfl (by decide) ?_
          exact X_iret rfl rfl rfl rfl rfl rfl rfl
        · refine X_iinc (v := l2 + 1) rfl rfl rfl (congrArg (fun z => l2 + z) (by decide : Int32.ofInt 1 = 1)) rfl ?_
          refine X_goto rfl rfl ?_
          exact X_sub (g_sub_s (g_sub_s (g_sub_s g_sub_0))) (ih _ _ _)
      · refine X_iconst (v := 1) rfl rfl (by decide) ?_
        exact X_iret rfl rfl rfl rfl rfl rfl rfl
    · refine X_iconst (v := 1) rfl rfl (by decide) ?_
      exact X_iret rfl rfl rfl rfl rfl rfl rfl
set_option maxRecDepth 100000 in
theorem ct_X7_buffersLetters {l : Launch} {G : gG} {h : gH} {a0 : Nat} {p1 : Int32} {r : Int32} (e : f_X7_buffersLetters h a0 p1 = some r) : Ct l G M_X7_buffersLetters [.ref a0, .int p1] h (some (.int r)) h := by
  refine Ct_of (L := [some (.ref a0), some (.int p1), none]) ok_X7_buffersLetters (by decide +kernel) rfl rfl rfl (ρ := (g_rI h)) (F := f_X7_buffersLetters h a0 p1) ?_ e rfl
  unfold f_X7_buffersLetters
  refine X_iload_n rfl rfl rfl ?_
  refine X_iconst (v := 1) rfl rfl (by decide) ?_
  refine X_bipush (v := 24) rfl rfl (by decide) ?_
  refine X_callS_IP (v := f_X7_isWithin p1 1 24) (M' := M_X7_isWithin) (nA := 3) (As := [.int p1, .int 1, .int 24]) (st := []) rfl rfl (by decide +kernel) rfl rfl rfl rfl rfl rfl rfl ct_X7_isWithin ?_
  refine X_bif_eq rfl rfl (fun _ => ?_) (fun _ => ?_)
  · refine X_iconst (v := 0) rfl rfl (by decide) ?_
    exact X_iret rfl rfl rfl rfl rfl rfl rfl
  · refine X_iload_n rfl rfl rfl ?_
    refine X_aload_n rfl rfl rfl ?_
    refine X_getI rfl rfl (fun v12 => ?_)
    refine X_bicmp_le rfl rfl (fun _ => ?_) (fun _ => ?_)
    · refine X_iconst (v := 0) rfl rfl (by decide) ?_
      exact X_iret rfl rfl rfl rfl rfl rfl rfl
    · refine X_iconst (v := 0) rfl rfl (by decide) ?_
      refine X_istore_n rfl rfl rfl rfl ?_
      exact X_sub (g_sub_s (g_sub_s (g_sub_s g_sub_0))) (b_X7_buffersLetters_b22  _ _ _ _)
def f_X7_send_b37 (h : gH) : Option ((Nat ⊕ Int32) × gH) :=
  some (.inl 1, h)
def f_X7_send (h : gH) (a0 : Nat) (p1 : Int32) (p2 : Int32) (p3 : Int32) : Option ((Nat ⊕ Int32) × gH) :=
  (if (f_X7_isWithin p1 0 1) = 0 then
    some (.inl 2, h)
  else
    (if (f_X7_isWithin p2 0 9) = 0 then
      f_X7_send_b37 h
    else
      bif g_is h a0 7 then
      (f_X7_buffersLetters h a0 p3).bind fun v31 =>
      (if v31 = 0 then
        f_X7_send_b37 h
      else
        (g_gA h a0 7 3).bind fun v48 =>
        (g_gI h v48 6 1).bind fun v51 =>
        (if 8 ≤ v51 then
          some (.inl 4, h)
        else
          (g_gA h a0 7 5).bind fun v70 =>
          (g_gA h a0 7 3).bind fun v74 =>
          bif g_is h v70 1 then
          (f_X1_keep h v70 v74).bind fun h77 =>
          (g_gA h77 a0 7 3).bind fun v81 =>
          (g_gA h77 a0 7 0).bind fun v87 =>
          bif g_is h77 v81 6 then
          (f_X6_addMessage h77 v81 p1 p2 v87 0 p3).bind fun h92 =>
          (g_put h92 a0 7 1 (.int 0)).bind fun h97 =>
          (g_gA h97 a0 7 3).bind fun v101 =>
          (g_gI h97 v101 6 1).bind fun v104 =>
          some (.inr (v104 - 1), h97)
          else none
          else none))
      else none))
set_option maxRecDepth 100000 in
theorem b_X7_send_b37 {l : Launch} {G : gG} (hl : l.stackTraces = false) (h : gH) : GX l G M_X7_send (g_phx G g_xI (m_R M_X7_send).cells (m_R M_X7_send).slots) 0 0 37 [none, none, none, none] [] h (f_X7_send_b37 h) := by
  unfold f_X7_send_b37
  exact X_thr (is := 190) (i := 13) (tx := "urgency, length or letters") thr_1 hl rfl (by decide +kernel) (by decide) rfl (by decide) rfl rfl rfl rfl rfl rfl rfl rfl
set_option maxRecDepth 100000 in
theorem ct_X7_send {l : Launch} {G : gG} {h : gH} {a0 : Nat} {p1 : Int32} {p2 : Int32} {p3 : Int32} (hl : l.stackTraces = false) {o : Nat ⊕ Int32} {h1 : gH} (e : f_X7_send h a0 p1 p2 p3 = some (o, h1)) : Cx l G M_X7_send [.ref a0, .int p1, .int p2, .int p3] h (g_xI (o, h1)).1 h1 := by
  refine Cx_of (L := [some (.ref a0), some (.int p1), some (.int p2), some (.int p3)]) ok_X7_send (by decide +kernel) rfl rfl rfl rfl (ρ := g_xI) (F := f_X7_send h a0 p1 p2 p3) ?_ e rfl
  unfold f_X7_send
  refine X_iload_n rfl rfl rfl ?_
  refine X_iconst (v := 0) rfl rfl (by decide) ?_
  refine X_iconst (v := 1) rfl rfl (by decide) ?_
  refine X_callS_IP (v := f_X7_isWithin p1 0 1) (M' := M_X7_isWithin) (nA := 3) (As := [.int p1, .int 0, .int 1]) (st := []) rfl rfl (by decide +kernel) rfl rfl rfl rfl rfl rfl rfl ct_X7_isWithin ?_
  refine X_bif_ne rfl rfl (fun _ => ?_) (fun _ => ?_)
  · exact X_thr (is := 141) (i := 11) (tx := "station") thr_2 hl rfl (by decide +kernel) (by decide) rfl (by decide) rfl rfl rfl rfl rfl rfl rfl rfl
  · refine X_iload_n rfl rfl rfl ?_
    refine X_iconst (v := 0) rfl rfl (by decide) ?_
    refine X_bipush (v := 9) rfl rfl (by decide) ?_
    refine X_callS_IP (v := f_X7_isWithin p2 0 9) (M' := M_X7_isWithin) (nA := 3) (As := [.int p2, .int 0, .int 9]) (st := []) rfl rfl (by decide +kernel) rfl rfl rfl rfl rfl rfl rfl ct_X7_isWithin ?_
    refine X_bif_eq rfl rfl (fun _ => ?_) (fun _ => ?_)
    · exact X_sub (g_sub_n (g_sub_n (g_sub_n (g_sub_n g_sub_0)))) (b_X7_send_b37 hl _)
    · refine X_aload_n rfl rfl rfl ?_
      refine X_iload_n rfl rfl rfl ?_
      refine X_callV_IR (M' := M_X7_buffersLetters) (nA := 1) (As := [.int p3]) (st := []) (b := a0) (ci := 7) rfl rfl (by decide +kernel) rfl rfl rfl rfl rfl rfl rfl rfl (fun _ e => ct_X7_buffersLetters e) (fun v31 => ?_)
      refine X_bif_ne rfl rfl (fun _ => ?_) (fun _ => ?_)
      · exact X_sub (g_sub_n (g_sub_n (g_sub_n (g_sub_n g_sub_0)))) (b_X7_send_b37 hl _)
      · refine X_aload_n rfl rfl rfl ?_
        refine X_getA rfl rfl (fun v48 => ?_)
        refine X_getI rfl rfl (fun v51 => ?_)
        refine X_bipush (v := 8) rfl rfl (by decide) ?_
        refine X_bicmp_lt rfl rfl (fun _ => ?_) (fun _ => ?_)
        · exact X_thr (is := 194) (i := 14) (tx := "messages") thr_4 hl rfl (by decide +kernel) (by decide) rfl (by decide) rfl rfl rfl rfl rfl rfl rfl rfl
        · refine X_aload_n rfl rfl rfl ?_
          refine X_getA rfl rfl (fun v70 => ?_)
          refine X_aload_n rfl rfl rfl ?_
          refine X_getA rfl rfl (fun v74 => ?_)
          refine X_callV_UW (M' := M_X1_keep) (nA := 1) (As := [.ref v74]) (st := []) (b := v70) (ci := 1) rfl rfl (by decide +kernel) rfl rfl rfl rfl rfl rfl rfl rfl (fun _ e => ct_X1_keep e) (fun h77 => ?_)
          refine X_aload_n rfl rfl rfl ?_
          refine X_getA rfl rfl (fun v81 => ?_)
          refine X_iload_n rfl rfl rfl ?_
          refine X_iload_n rfl rfl rfl ?_
          refine X_aload_n rfl rfl rfl ?_
          refine X_getA rfl rfl (fun v87 => ?_)
          refine X_iconst (v := 0) rfl rfl (by decide) ?_
          refine X_iload_n rfl rfl rfl ?_
          refine X_callV_UW (M' := M_X6_addMessage) (nA := 5) (As := [.int p1, .int p2, .ref v87, .int 0, .int p3]) (st := []) (b := v81) (ci := 6) rfl rfl (by decide +kernel) rfl rfl rfl rfl rfl rfl rfl rfl (fun _ e => ct_X6_addMessage e) (fun h92 => ?_)
          refine X_aload_n rfl rfl rfl ?_
          refine X_iconst (v := 0) rfl rfl (by decide) ?_
          refine X_put rfl rfl rfl rfl rfl (fun h97 => ?_)
          refine X_aload_n rfl rfl rfl ?_
          refine X_getA rfl rfl (fun v101 => ?_)
          refine X_getI rfl rfl (fun v104 => ?_)
          refine X_iconst (v := 1) rfl rfl (by decide) ?_
          refine X_isub rfl rfl ?_
          exact X_vx rfl (X_iret rfl rfl rfl rfl rfl rfl rfl)
def f_X7_fog_b32 (h : gH) : Option ((Nat ⊕ Int32) × gH) :=
  some (.inl 1, h)
def f_X7_fog (h : gH) (a0 : Nat) (p1 : Int32) (p2 : Int32) (p3 : Int32) : Option ((Nat ⊕ Int32) × gH) :=
  (if (f_X7_isWithin p1 0 9999) = 0 then
    f_X7_fog_b32 h
  else
    (if (f_X7_isWithin p2 p1 9999) = 0 then
      f_X7_fog_b32 h
    else
      (if (f_X7_isWithin p3 0 9) = 0 then
        f_X7_fog_b32 h
      else
        (g_gA h a0 7 3).bind fun v43 =>
        (g_gA h v43 6 15).bind fun v46 =>
        bif g_is h v46 4 then
        (f_X4_isFull h v46).bind fun v49 =>
        (if v49 = 0 then
          (g_gA h a0 7 5).bind fun v66 =>
          (g_gA h a0 7 3).bind fun v70 =>
          bif g_is h v66 1 then
          (f_X1_keep h v66 v70).bind fun h73 =>
          (g_gA h73 a0 7 3).bind fun v77 =>
          (g_gA h73 v77 6 15).bind fun v80 =>
          bif g_is h73 v80 4 then
          (f_X4_add h73 v80 p1 p2 p3).bind fun h86 =>
          (g_gA h86 a0 7 3).bind fun v90 =>
          (g_gA h86 v90 6 15).bind fun v93 =>
          (g_gI h86 v93 4 0).bind fun v96 =>
          some (.inr v96, h86)
          else none
          else none
        else
          some (.inl 4, h))
        else none)))
set_option maxRecDepth 100000 in
theorem b_X7_fog_b32 {l : Launch} {G : gG} (hl : l.stackTraces = false) (h : gH) : GX l G M_X7_fog (g_phx G g_xI (m_R M_X7_fog).cells (m_R M_X7_fog).slots) 0 0 32 [none, none, none, none] [] h (f_X7_fog_b32 h) := by
  unfold f_X7_fog_b32
  exact X_thr (is := 201) (i := 15) (tx := "first, last or level") thr_1 hl rfl (by decide +kernel) (by decide) rfl (by decide) rfl rfl rfl rfl rfl rfl rfl rfl
set_option maxRecDepth 100000 in
theorem ct_X7_fog {l : Launch} {G : gG} {h : gH} {a0 : Nat} {p1 : Int32} {p2 : Int32} {p3 : Int32} (hl : l.stackTraces = false) {o : Nat ⊕ Int32} {h1 : gH} (e : f_X7_fog h a0 p1 p2 p3 = some (o, h1)) : Cx l G M_X7_fog [.ref a0, .int p1, .int p2, .int p3] h (g_xI (o, h1)).1 h1 := by
  refine Cx_of (L := [some (.ref a0), some (.int p1), some (.int p2), some (.int p3)]) ok_X7_fog (by decide +kernel) rfl rfl rfl rfl (ρ := g_xI) (F := f_X7_fog h a0 p1 p2 p3) ?_ e rfl
  unfold f_X7_fog
  refine X_iload_n rfl rfl rfl ?_
  refine X_iconst (v := 0) rfl rfl (by decide) ?_
  refine X_sipush (v := 9999) rfl rfl (by decide) ?_
  refine X_callS_IP (v := f_X7_isWithin p1 0 9999) (M' := M_X7_isWithin) (nA := 3) (As := [.int p1, .int 0, .int 9999]) (st := []) rfl rfl (by decide +kernel) rfl rfl rfl rfl rfl rfl rfl ct_X7_isWithin ?_
  refine X_bif_eq rfl rfl (fun _ => ?_) (fun _ => ?_)
  · exact X_sub (g_sub_n (g_sub_n (g_sub_n (g_sub_n g_sub_0)))) (b_X7_fog_b32 hl _)
  · refine X_iload_n rfl rfl rfl ?_
    refine X_iload_n rfl rfl rfl ?_
    refine X_sipush (v := 9999) rfl rfl (by decide) ?_
    refine X_callS_IP (v := f_X7_isWithin p2 p1 9999) (M' := M_X7_isWithin) (nA := 3) (As := [.int p2, .int p1, .int 9999]) (st := []) rfl rfl (by decide +kernel) rfl rfl rfl rfl rfl rfl rfl ct_X7_isWithin ?_
    refine X_bif_eq rfl rfl (fun _ => ?_) (fun _ => ?_)
    · exact X_sub (g_sub_n (g_sub_n (g_sub_n (g_sub_n g_sub_0)))) (b_X7_fog_b32 hl _)
    · refine X_iload_n rfl rfl rfl ?_
      refine X_iconst (v := 0) rfl rfl (by decide) ?_
      refine X_bipush (v := 9) rfl rfl (by decide) ?_
      refine X_callS_IP (v := f_X7_isWithin p3 0 9) (M' := M_X7_isWithin) (nA := 3) (As := [.int p3, .int 0, .int 9]) (st := []) rfl rfl (by decide +kernel) rfl rfl rfl rfl rfl rfl rfl ct_X7_isWithin ?_
      refine X_bif_ne rfl rfl (fun _ => ?_) (fun _ => ?_)
      · exact X_sub (g_sub_n (g_sub_n (g_sub_n (g_sub_n g_sub_0)))) (b_X7_fog_b32 hl _)
      · refine X_aload_n rfl rfl rfl ?_
        refine X_getA rfl rfl (fun v43 => ?_)
        refine X_getA rfl rfl (fun v46 => ?_)
        refine X_callV_IR (M' := M_X4_isFull) (nA := 0) (As := []) (st := []) (b := v46) (ci := 4) rfl rfl (by decide +kernel) rfl rfl rfl rfl rfl rfl rfl rfl (fun _ e => ct_X4_isFull e) (fun v49 => ?_)
        refine X_bif_eq rfl rfl (fun _ => ?_) (fun _ => ?_)
        · refine X_aload_n rfl rfl rfl ?_
          refine X_getA rfl rfl (fun v66 => ?_)
          refine X_aload_n rfl rfl rfl ?_
          refine X_getA rfl rfl (fun v70 => ?_)
          refine X_callV_UW (M' := M_X1_keep) (nA := 1) (As := [.ref v70]) (st := []) (b := v66) (ci := 1) rfl rfl (by decide +kernel) rfl rfl rfl rfl rfl rfl rfl rfl (fun _ e => ct_X1_keep e) (fun h73 => ?_)
          refine X_aload_n rfl rfl rfl ?_
          refine X_getA rfl rfl (fun v77 => ?_)
          refine X_getA rfl rfl (fun v80 => ?_)
          refine X_iload_n rfl rfl rfl ?_
          refine X_iload_n rfl rfl rfl ?_
          refine X_iload_n rfl rfl rfl ?_
          refine X_callV_UW (M' := M_X4_add) (nA := 3) (As := [.int p1, .int p2, .int p3]) (st := []) (b := v80) (ci := 4) rfl rfl (by decide +kernel) rfl rfl rfl rfl rfl rfl rfl rfl (fun _ e => ct_X4_add e) (fun h86 => ?_)
          refine X_aload_n rfl rfl rfl ?_
          refine X_getA rfl rfl (fun v90 => ?_)
          refine X_getA rfl rfl (fun v93 => ?_)
          refine X_getI rfl rfl (fun v96 => ?_)
          exact X_vx rfl (X_iret rfl rfl rfl rfl rfl rfl rfl)
        · exact X_thr (is := 206) (i := 16) (tx := "mists") thr_4 hl rfl (by decide +kernel) (by decide) rfl (by decide) rfl rfl rfl rfl rfl rfl rfl rfl
def f_X7_relieve_b92 (h : gH) (l0 : Nat) (l2 : Int32) (l3 : Nat) : Option ((Nat ⊕ Int32) × gH) :=
  (g_gA h l0 7 5).bind fun v93 =>
  (g_gA h l0 7 3).bind fun v97 =>
  bif g_is h v93 1 then
  (f_X1_keep h v93 v97).bind fun h100 =>
  (g_gA h100 l0 7 3).bind fun v105 =>
  (g_gI h100 v105 6 0).bind fun v108 =>
  bif g_is h100 l3 2 then
  (f_X2_keyAt h100 l3 v108).bind fun v111 =>
  (g_gA h100 l0 7 3).bind fun v118 =>
  (g_gI h100 v118 6 0).bind fun v121 =>
  bif g_is h100 l3 2 then
  (f_X2_come h100 l3 v121 l2).bind fun h125 =>
  some (.inr v111, h125)
  else none
  else none
  else none
def f_X7_relieve_b82 (h : gH) : Option ((Nat ⊕ Int32) × gH) :=
  some (.inl 4, h)
def f_X7_relieve (h : gH) (a0 : Nat) (p1 : Int32) (p2 : Int32) : Option ((Nat ⊕ Int32) × gH) :=
  (if (f_X7_isWithin p1 0 1) = 0 then
    some (.inl 2, h)
  else
    (if (f_X7_isWithin p2 0 25) = 0 then
      some (.inl 1, h)
    else
      (g_gA h a0 7 3).bind fun v40 =>
      bif g_is h v40 6 then
      (f_X6_keepersOf h v40 p1).bind fun v44 =>
      (g_gA h a0 7 3).bind fun v49 =>
      (g_gI h v49 6 0).bind fun v52 =>
      (if v52 ≤ 9999 then
        bif g_is h v44 2 then
        (f_X2_isFull h v44).bind fun v62 =>
        (if v62 = 0 then
          f_X7_relieve_b92 h a0 p2 v44
        else
          (g_gA h a0 7 3).bind fun v70 =>
          (g_gI h v70 6 0).bind fun v73 =>
          bif g_is h v44 2 then
          (f_X2_hasOneAt h v44 v73).bind fun v76 =>
          (if v76 = 0 then
            f_X7_relieve_b82 h
          else
            f_X7_relieve_b92 h a0 p2 v44)
          else none)
        else none
      else
        f_X7_relieve_b82 h)
      else none))
set_option maxRecDepth 100000 in
theorem b_X7_relieve_b92 {l : Launch} {G : gG} (hl : l.stackTraces = false) (h : gH) (l0 : Nat) (l2 : Int32) (l3 : Nat) : GX l G M_X7_relieve (g_phx G g_xI (m_R M_X7_relieve).cells (m_R M_X7_relieve).slots) 0 0 92 [some (.ref l0), none, some (.int l2), some (.ref l3), none] [] h (f_X7_relieve_b92 h l0 l2 l3) := by
  unfold f_X7_relieve_b92
  refine X_aload_n rfl rfl rfl ?_
  refine X_getA rfl rfl (fun v93 => ?_)
  refine X_aload_n rfl rfl rfl ?_
  refine X_getA rfl rfl (fun v97 => ?_)
  refine X_callV_UW (M' := M_X1_keep) (nA := 1) (As := [.ref v97]) (st := []) (b := v93) (ci := 1) rfl rfl (by decide +kernel) rfl rfl rfl rfl rfl rfl rfl rfl (fun _ e => ct_X1_keep e) (fun h100 => ?_)
  refine X_aload_n rfl rfl rfl ?_
  refine X_aload_n rfl rfl rfl ?_
  refine X_getA rfl rfl (fun v105 => ?_)
  refine X_getI rfl rfl (fun v108 => ?_)
  refine X_callV_IR (M' := M_X2_keyAt) (nA := 1) (As := [.int v108]) (st := []) (b := l3) (ci := 2) rfl rfl (by decide +kernel) rfl rfl rfl rfl rfl rfl rfl rfl (fun _ e => ct_X2_keyAt e) (fun v111 => ?_)
  refine X_istore rfl rfl rfl rfl ?_
  refine X_aload_n rfl rfl rfl ?_
  refine X_aload_n rfl rfl rfl ?_
  refine X_getA rfl rfl (fun v118 => ?_)
  refine X_getI rfl rfl (fun v121 => ?_)
  refine X_iload_n rfl rfl rfl ?_
  refine X_callV_UW (M' := M_X2_come) (nA := 2) (As := [.int v121, .int l2]) (st := []) (b := l3) (ci := 2) rfl rfl (by decide +kernel) rfl rfl rfl rfl rfl rfl rfl rfl (fun _ e => ct_X2_come e) (fun h125 => ?_)
  refine X_iload rfl rfl rfl ?_
  exact X_vx rfl (X_iret rfl rfl rfl rfl rfl rfl rfl)
set_option maxRecDepth 100000 in
theorem b_X7_relieve_b82 {l : Launch} {G : gG} (hl : l.stackTraces = false) (h : gH) : GX l G M_X7_relieve (g_phx G g_xI (m_R M_X7_relieve).cells (m_R M_X7_relieve).slots) 0 0 82 [none, none, none, none, none] [] h (f_X7_relieve_b82 h) := by
  unfold f_X7_relieve_b82
  exact X_thr (is := 218) (i := 18) (tx := "keepers or time") thr_4 hl rfl (by decide +kernel) (by decide) rfl (by decide) rfl rfl rfl rfl rfl rfl rfl rfl
set_option maxRecDepth 100000 in
theorem ct_X7_relieve {l : Launch} {G : gG} {h : gH} {a0 : Nat} {p1 : Int32} {p2 : Int32} (hl : l.stackTraces = false) {o : Nat ⊕ Int32} {h1 : gH} (e : f_X7_relieve h a0 p1 p2 = some (o, h1)) : Cx l G M_X7_relieve [.ref a0, .int p1, .int p2] h (g_xI (o, h1)).1 h1 := by
  refine Cx_of (L := [some (.ref a0), some (.int p1), some (.int p2), none, none]) ok_X7_relieve (by decide +kernel) rfl rfl rfl rfl (ρ := g_xI) (F := f_X7_relieve h a0 p1 p2) ?_ e rfl
  unfold f_X7_relieve
  refine X_iload_n rfl rfl rfl ?_
  refine X_iconst (v := 0) rfl rfl (by decide) ?_
  refine X_iconst (v := 1) rfl rfl (by decide) ?_
  refine X_callS_IP (v := f_X7_isWithin p1 0 1) (M' := M_X7_isWithin) (nA := 3) (As := [.int p1, .int 0, .int 1]) (st := []) rfl rfl (by decide +kernel) rfl rfl rfl rfl rfl rfl rfl ct_X7_isWithin ?_
  refine X_bif_ne rfl rfl (fun _ => ?_) (fun _ => ?_)
  · exact X_thr (is := 141) (i := 11) (tx := "station") thr_2 hl rfl (by decide +kernel) (by decide) rfl (by decide) rfl rfl rfl rfl rfl rfl rfl rfl
  · refine X_iload_n rfl rfl rfl ?_
    refine X_iconst (v := 0) rfl rfl (by decide) ?_
    refine X_bipush (v := 25) rfl rfl (by decide) ?_
    refine X_callS_IP (v := f_X7_isWithin p2 0 25) (M' := M_X7_isWithin) (nA := 3) (As := [.int p2, .int 0, .int 25]) (st := []) rfl rfl (by decide +kernel) rfl rfl rfl rfl rfl rfl rfl ct_X7_isWithin ?_
    refine X_bif_ne rfl rfl (fun _ => ?_) (fun _ => ?_)
    · exact X_thr (is := 212) (i := 17) (tx := "key") thr_1 hl rfl (by decide +kernel) (by decide) rfl (by decide) rfl rfl rfl rfl rfl rfl rfl rfl
    · refine X_aload_n rfl rfl rfl ?_
      refine X_getA rfl rfl (fun v40 => ?_)
      refine X_iload_n rfl rfl rfl ?_
      refine X_callV_AR (M' := M_X6_keepersOf) (nA := 1) (As := [.int p1]) (st := []) (b := v40) (ci := 6) rfl rfl (by decide +kernel) rfl rfl rfl rfl rfl rfl rfl rfl (fun _ e => ct_X6_keepersOf e) (fun v44 => ?_)
      refine X_astore_n rfl rfl rfl rfl ?_
      refine X_aload_n rfl rfl rfl ?_
      refine X_getA rfl rfl (fun v49 => ?_)
      refine X_getI rfl rfl (fun v52 => ?_)
      refine X_sipush (v := 9999) rfl rfl (by decide) ?_
      refine X_bicmp_gt rfl rfl (fun _ => ?_) (fun _ => ?_)
      · refine X_aload_n rfl rfl rfl ?_
        refine X_callV_IR (M' := M_X2_isFull) (nA := 0) (As := []) (st := []) (b := v44) (ci := 2) rfl rfl (by decide +kernel) rfl rfl rfl rfl rfl rfl rfl rfl (fun _ e => ct_X2_isFull e) (fun v62 => ?_)
        refine X_bif_eq rfl rfl (fun _ => ?_) (fun _ => ?_)
        · exact X_sub (g_sub_s (g_sub_n (g_sub_s (g_sub_s (g_sub_n g_sub_0))))) (b_X7_relieve_b92 hl _ _ _ _)
        · refine X_aload_n rfl rfl rfl ?_
          refine X_aload_n rfl rfl rfl ?_
          refine X_getA rfl rfl (fun v70 => ?_)
          refine X_getI rfl rfl (fun v73 => ?_)
          refine X_callV_IR (M' := M_X2_hasOneAt) (nA := 1) (As := [.int v73]) (st := []) (b := v44) (ci := 2) rfl rfl (by decide +kernel) rfl rfl rfl rfl rfl rfl rfl rfl (fun _ e => ct_X2_hasOneAt e) (fun v76 => ?_)
          refine X_bif_ne rfl rfl (fun _ => ?_) (fun _ => ?_)
          · exact X_sub (g_sub_n (g_sub_n (g_sub_n (g_sub_n (g_sub_n g_sub_0))))) (b_X7_relieve_b82 hl _)
          · exact X_sub (g_sub_s (g_sub_n (g_sub_s (g_sub_s (g_sub_n g_sub_0))))) (b_X7_relieve_b92 hl _ _ _ _)
      · exact X_sub (g_sub_n (g_sub_n (g_sub_n (g_sub_n (g_sub_n g_sub_0))))) (b_X7_relieve_b82 hl _)
def f_X7_power (h : gH) (a0 : Nat) (p1 : Int32) (p2 : Int32) : Option ((Nat ⊕ Int32) × gH) :=
  (if (f_X7_isWithin p1 0 1) = 0 then
    some (.inl 2, h)
  else
    (if (f_X7_isWithin p2 0 9) = 0 then
      some (.inl 1, h)
    else
      (g_gA h a0 7 5).bind fun v40 =>
      (g_gA h a0 7 3).bind fun v44 =>
      bif g_is h v40 1 then
      (f_X1_keep h v40 v44).bind fun h47 =>
      (g_gA h47 a0 7 3).bind fun v51 =>
      bif g_is h47 v51 6 then
      (f_X6_channelNumbered h47 v51 p1).bind fun v55 =>
      (g_gI h47 v55 0 0).bind fun v60 =>
      (g_put h47 v55 0 0 (.int p2)).bind fun h67 =>
      some (.inr v60, h67)
      else none
      else none))
set_option maxRecDepth 100000 in
theorem ct_X7_power {l : Launch} {G : gG} {h : gH} {a0 : Nat} {p1 : Int32} {p2 : Int32} (hl : l.stackTraces = false) {o : Nat ⊕ Int32} {h1 : gH} (e : f_X7_power h a0 p1 p2 = some (o, h1)) : Cx l G M_X7_power [.ref a0, .int p1, .int p2] h (g_xI (o, h1)).1 h1 := by
  refine Cx_of (L := [some (.ref a0), some (.int p1), some (.int p2), none, none]) ok_X7_power (by decide +kernel) rfl rfl rfl rfl (ρ := g_xI) (F := f_X7_power h a0 p1 p2) ?_ e rfl
  unfold f_X7_power
  refine X_iload_n rfl rfl rfl ?_
  refine X_iconst (v := 0) rfl rfl (by decide) ?_
  refine X_iconst (v := 1) rfl rfl (by decide) ?_
  refine X_callS_IP (v := f_X7_isWithin p1 0 1) (M' := M_X7_isWithin) (nA := 3) (As := [.int p1, .int 0, .int 1]) (st := []) rfl rfl (by decide +kernel) rfl rfl rfl rfl rfl rfl rfl ct_X7_isWithin ?_
  refine X_bif_ne rfl rfl (fun _ => ?_) (fun _ => ?_)
  · exact X_thr (is := 85) (i := 7) (tx := "channel") thr_2 hl rfl (by decide +kernel) (by decide) rfl (by decide) rfl rfl rfl rfl rfl rfl rfl rfl
  · refine X_iload_n rfl rfl rfl ?_
    refine X_iconst (v := 0) rfl rfl (by decide) ?_
    refine X_bipush (v := 9) rfl rfl (by decide) ?_
    refine X_callS_IP (v := f_X7_isWithin p2 0 9) (M' := M_X7_isWithin) (nA := 3) (As := [.int p2, .int 0, .int 9]) (st := []) rfl rfl (by decide +kernel) rfl rfl rfl rfl rfl rfl rfl ct_X7_isWithin ?_
    refine X_bif_ne rfl rfl (fun _ => ?_) (fun _ => ?_)
    · exact X_thr (is := 224) (i := 19) (tx := "power") thr_1 hl rfl (by decide +kernel) (by decide) rfl (by decide) rfl rfl rfl rfl rfl rfl rfl rfl
    · refine X_aload_n rfl rfl rfl ?_
      refine X_getA rfl rfl (fun v40 => ?_)
      refine X_aload_n rfl rfl rfl ?_
      refine X_getA rfl rfl (fun v44 => ?_)
      refine X_callV_UW (M' := M_X1_keep) (nA := 1) (As := [.ref v44]) (st := []) (b := v40) (ci := 1) rfl rfl (by decide +kernel) rfl rfl rfl rfl rfl rfl rfl rfl (fun _ e => ct_X1_keep e) (fun h47 => ?_)
      refine X_aload_n rfl rfl rfl ?_
      refine X_getA rfl rfl (fun v51 => ?_)
      refine X_iload_n rfl rfl rfl ?_
      refine X_callV_AR (M' := M_X6_channelNumbered) (nA := 1) (As := [.int p1]) (st := []) (b := v51) (ci := 6) rfl rfl (by decide +kernel) rfl rfl rfl rfl rfl rfl rfl rfl (fun _ e => ct_X6_channelNumbered e) (fun v55 => ?_)
      refine X_astore_n rfl rfl rfl rfl ?_
      refine X_aload_n rfl rfl rfl ?_
      refine X_getI rfl rfl (fun v60 => ?_)
      refine X_istore rfl rfl rfl rfl ?_
      refine X_aload_n rfl rfl rfl ?_
      refine X_iload_n rfl rfl rfl ?_
      refine X_put rfl rfl rfl rfl rfl (fun h67 => ?_)
      refine X_iload rfl rfl rfl ?_
      exact X_vx rfl (X_iret rfl rfl rfl rfl rfl rfl rfl)
def f_X7_cancel (h : gH) (a0 : Nat) (p1 : Int32) : Option ((Nat ⊕ Int32) × gH) :=
  (g_gA h a0 7 3).bind fun v1 =>
  bif g_is h v1 6 then
  (f_X6_hasMessage h v1 p1).bind fun v5 =>
  (if v5 = 0 then
    some (.inl 2, h)
  else
    (g_gA h a0 7 3).bind fun v22 =>
    bif g_is h v22 6 then
    (f_X6_messageNumbered h v22 p1).bind fun v26 =>
    bif g_is h v26 3 then
    (f_X3_canBeCancelled h v26).bind fun v29 =>
    (if v29 = 0 then
      some (.inl 4, h)
    else
      (g_gA h a0 7 5).bind fun v46 =>
      (g_gA h a0 7 3).bind fun v50 =>
      bif g_is h v46 1 then
      (f_X1_keep h v46 v50).bind fun h53 =>
      (g_gA h53 a0 7 3).bind fun v57 =>
      bif g_is h53 v57 6 then
      (f_X6_takeBack h53 v57 p1).bind fun y61 =>
      (g_z y61.1).bind fun z => some (.inr y61.1, y61.2)
      else none
      else none)
    else none
    else none)
  else none
set_option maxRecDepth 100000 in
theorem ct_X7_cancel {l : Launch} {G : gG} {h : gH} {a0 : Nat} {p1 : Int32} (hl : l.stackTraces = false) {o : Nat ⊕ Int32} {h1 : gH} (e : f_X7_cancel h a0 p1 = some (o, h1)) : Cx l G M_X7_cancel [.ref a0, .int p1] h (g_xI (o, h1)).1 h1 := by
  refine Cx_of (L := [some (.ref a0), some (.int p1)]) ok_X7_cancel (by decide +kernel) rfl rfl rfl rfl (ρ := g_xI) (F := f_X7_cancel h a0 p1) ?_ e rfl
  unfold f_X7_cancel
  refine X_aload_n rfl rfl rfl ?_
  refine X_getA rfl rfl (fun v1 => ?_)
  refine X_iload_n rfl rfl rfl ?_
  refine X_callV_IR (M' := M_X6_hasMessage) (nA := 1) (As := [.int p1]) (st := []) (b := v1) (ci := 6) rfl rfl (by decide +kernel) rfl rfl rfl rfl rfl rfl rfl rfl (fun _ e => ct_X6_hasMessage e) (fun v5 => ?_)
  refine X_bif_ne rfl rfl (fun _ => ?_) (fun _ => ?_)
  · exact X_thr (is := 104) (i := 8) (tx := "message") thr_2 hl rfl (by decide +kernel) (by decide) rfl (by decide) rfl rfl rfl rfl rfl rfl rfl rfl
  · refine X_aload_n rfl rfl rfl ?_
    refine X_getA rfl rfl (fun v22 => ?_)
    refine X_iload_n rfl rfl rfl ?_
    refine X_callV_AR (M' := M_X6_messageNumbered) (nA := 1) (As := [.int p1]) (st := []) (b := v22) (ci := 6) rfl rfl (by decide +kernel) rfl rfl rfl rfl rfl rfl rfl rfl (fun _ e => ct_X6_messageNumbered e) (fun v26 => ?_)
    refine X_callV_IR (M' := M_X3_canBeCancelled) (nA := 0) (As := []) (st := []) (b := v26) (ci := 3) rfl rfl (by decide +kernel) rfl rfl rfl rfl rfl rfl rfl rfl (fun _ e => ct_X3_canBeCancelled e) (fun v29 => ?_)
    refine X_bif_ne rfl rfl (fun _ => ?_) (fun _ => ?_)
    · exact X_thr (is := 228) (i := 20) (tx := "over or cancelled") thr_4 hl rfl (by decide +kernel) (by decide) rfl (by decide) rfl rfl rfl rfl rfl rfl rfl rfl
    · refine X_aload_n rfl rfl rfl ?_
      refine X_getA rfl rfl (fun v46 => ?_)
      refine X_aload_n rfl rfl rfl ?_
      refine X_getA rfl rfl (fun v50 => ?_)
      refine X_callV_UW (M' := M_X1_keep) (nA := 1) (As := [.ref v50]) (st := []) (b := v46) (ci := 1) rfl rfl (by decide +kernel) rfl rfl rfl rfl rfl rfl rfl rfl (fun _ e => ct_X1_keep e) (fun h53 => ?_)
      refine X_aload_n rfl rfl rfl ?_
      refine X_getA rfl rfl (fun v57 => ?_)
      refine X_iload_n rfl rfl rfl ?_
      refine X_callV_IW (M' := M_X6_takeBack) (nA := 1) (As := [.int p1]) (st := []) (b := v57) (ci := 6) rfl rfl (by decide +kernel) rfl rfl rfl rfl rfl rfl rfl rfl (fun _ _ e => ct_X6_takeBack e) (fun y61 => ?_)
      refine X_zb (fun z zz => ?_)
      exact X_vx rfl (X_iret rfl rfl rfl (g_znar zz) rfl rfl rfl)
def f_X7_undo (h : gH) (a0 : Nat) : Option (Int32 × gH) :=
  (g_gA h a0 7 5).bind fun v1 =>
  (g_gA h a0 7 3).bind fun v5 =>
  bif g_is h v1 1 then
  (f_X1_restore h v1 v5).bind fun y8 =>
  (if y8.1 = 0 then
    some (-1, y8.2)
  else
    (g_gA y8.2 a0 7 5).bind fun v15 =>
    (g_gI y8.2 v15 1 2).bind fun v18 =>
    some (v18, y8.2))
  else none
set_option maxRecDepth 100000 in
theorem ct_X7_undo {l : Launch} {G : gG} {h : gH} {a0 : Nat} {r : Int32} {h1 : gH} (e : f_X7_undo h a0 = some (r, h1)) : Ct l G M_X7_undo [.ref a0] h (some (.int r)) h1 := by
  refine Ct_of (L := [some (.ref a0)]) ok_X7_undo (by decide +kernel) rfl rfl rfl (ρ := g_wI) (F := f_X7_undo h a0) ?_ e rfl
  unfold f_X7_undo
  refine X_aload_n rfl rfl rfl ?_
  refine X_getA rfl rfl (fun v1 => ?_)
  refine X_aload_n rfl rfl rfl ?_
  refine X_getA rfl rfl (fun v5 => ?_)
  refine X_callV_IW (M' := M_X1_restore) (nA := 1) (As := [.ref v5]) (st := []) (b := v1) (ci := 1) rfl rfl (by decide +kernel) rfl rfl rfl rfl rfl rfl rfl rfl (fun _ _ e => ct_X1_restore e) (fun y8 => ?_)
  refine X_bif_eq rfl rfl (fun _ => ?_) (fun _ => ?_)
  · refine X_iconst (v := -1) rfl rfl (by decide) ?_
    exact X_iret rfl rfl rfl rfl rfl rfl rfl
  · refine X_aload_n rfl rfl rfl ?_
    refine X_getA rfl rfl (fun v15 => ?_)
    refine X_getI rfl rfl (fun v18 => ?_)
    refine X_goto rfl rfl ?_
    exact X_iret rfl rfl rfl rfl rfl rfl rfl
def f_X7_checksum_b42 (h : gH) (K34 : Nat → Int64 → Int32 → Option (Int64)) : Nat → Nat → Int64 → Int32 → Int32 → Option (Int64)
  | 0, _, _, _, _ => none
  | n + 1, l0, l1, l3, l4 =>
    (if l4 < 6 then
      (g_gA h l0 7 3).bind fun v55 =>
      bif g_is h v55 6 then
      (f_X6_channelNumbered h v55 l3).bind fun v59 =>
      (g_gA h l0 7 3).bind fun v65 =>
      (g_gI h v65 6 0).bind fun v68 =>
      bif g_is h v59 0 then
      (f_X0_figure h v59 l4 v68).bind fun v71 =>
      f_X7_checksum_b42 h K34 n l0 ((31 * l1) + (Int32.toInt64 v71)) l3 (l4 + 1)
      else none
      else none
    else
      K34 l0 l1 (l3 + 1))
def f_X7_checksum_b91 (h : gH) : Nat → Nat → Int64 → Int32 → Option (Int64)
  | 0, _, _, _ => none
  | n + 1, l0, l1, l3 =>
    (g_gA h l0 7 3).bind fun v93 =>
    (g_gI h v93 6 1).bind fun v96 =>
    (if l3 < v96 then
      (g_gA h l0 7 3).bind fun v103 =>
      bif g_is h v103 6 then
      (f_X6_messageNumbered h v103 l3).bind fun v107 =>
      bif g_is h v107 3 then
      (f_X3_addedTo h v107 l1).bind fun v111 =>
      f_X7_checksum_b91 h n l0 v111 (l3 + 1)
      else none
      else none
    else
      some l1)
def f_X7_checksum_b34 (h : gH) : Nat → Nat → Int64 → Int32 → Option (Int64)
  | 0, _, _, _ => none
  | n + 1, l0, l1, l3 =>
    (if l3 < 2 then
      f_X7_checksum_b42 h (f_X7_checksum_b34 h n) g_N l0 l1 l3 0
    else
      f_X7_checksum_b91 h g_N l0 l1 0)
def f_X7_checksum_b4 (h : gH) : Nat → Nat → Int64 → Int32 → Option (Int64)
  | 0, _, _, _ => none
  | n + 1, l0, l1, l3 =>
    (if l3 < 13 then
      (g_gA h l0 7 3).bind fun v16 =>
      bif g_is h v16 6 then
      (f_X6_figure h v16 l3).bind fun v20 =>
      f_X7_checksum_b4 h n l0 ((31 * l1) + (Int32.toInt64 v20)) (l3 + 1)
      else none
    else
      f_X7_checksum_b34 h g_N l0 l1 0)
def f_X7_checksum (h : gH) (a0 : Nat) : Option (Int64) :=
  f_X7_checksum_b4 h g_N a0 0 0
set_option maxRecDepth 100000 in
theorem b_X7_checksum_b42 {l : Launch} {G : gG} {h : gH} {K34 : Nat → Int64 → Int32 → Option (Int64)} (hK34 : ∀ (l0 : Nat) (l1 : Int64) (l3 : Int32), GX l G M_X7_checksum (g_phi G (g_rL h) (m_R M_X7_checksum).cells (m_R M_X7_checksum).slots) 0 0 34 [some (.ref l0), some (.long l1), none, some (.int l3), none] [] h (K34 l0 l1 l3)) : ∀ (n : Nat) (l0 : Nat) (l1 : Int64) (l3 : Int32) (l4 : Int32), GX l G M_X7_checksum (g_phi G (g_rL h) (m_R M_X7_checksum).cells (m_R M_X7_checksum).slots) 0 0 42 [some (.ref l0), some (.long l1), none, some (.int l3), some (.int l4)] [] h (f_X7_checksum_b42 h K34 n l0 l1 l3 l4) := by
  intro n
  induction n with
  | zero => intros; exact X_none
  | succ n ih =>
    intro l0 l1 l3 l4
    rw [f_X7_checksum_b42]
    refine X_iload rfl rfl rfl ?_
    refine X_bipush (v := 6) rfl rfl (by decide) ?_
    refine X_bicmp_ge rfl rfl (fun _ => ?_) (fun _ => ?_)
    · refine X_ldc2 (v := 31) rfl rfl (by decide +kernel) ?_
      refine X_lload_n rfl rfl rfl ?_
      refine X_lmul rfl rfl ?_
      refine X_aload_n rfl rfl rfl ?_
      refine X_getA rfl rfl (fun v55 => ?_)
      refine X_iload_n rfl rfl rfl ?_
      refine X_callV_AR (M' := M_X6_channelNumbered) (nA := 1) (As := [.int l3]) (st := [.long (31 * l1)]) (b := v55) (ci := 6) rfl rfl (by decide +kernel) rfl rfl rfl rfl rfl rfl rfl rfl (fun _ e => ct_X6_channelNumbered e) (fun v59 => ?_)
      refine X_iload rfl rfl rfl ?_
      refine X_aload_n rfl rfl rfl ?_
      refine X_getA rfl rfl (fun v65 => ?_)
      refine X_getI rfl rfl (fun v68 => ?_)
      refine X_callV_IR (M' := M_X0_figure) (nA := 2) (As := [.int l4, .int v68]) (st := [.long (31 * l1)]) (b := v59) (ci := 0) rfl rfl (by decide +kernel) rfl rfl rfl rfl rfl rfl rfl rfl (fun _ e => ct_X0_figure e) (fun v71 => ?_)
      refine X_i2l rfl rfl ?_
      refine X_ladd rfl rfl ?_
      refine X_lstore_n rfl rfl rfl rfl ?_
      refine X_iinc (v := l4 + 1) rfl rfl rfl (congrArg (fun z => l4 + z) (by decide : Int32.ofInt 1 = 1)) rfl ?_
      refine X_goto rfl rfl ?_
      exact X_sub (g_sub_s (g_sub_s (g_sub_n (g_sub_s (g_sub_s g_sub_0))))) (ih _ _ _ _)
    · refine X_iinc (v := l3 + 1) rfl rfl rfl (congrArg (fun z => l3 + z) (by decide : Int32.ofInt 1 = 1)) rfl ?_
      refine X_goto rfl rfl ?_
      exact X_sub (g_sub_s (g_sub_s (g_sub_n (g_sub_s (g_sub_n g_sub_0))))) (hK34 _ _ _)
set_option maxRecDepth 100000 in
theorem b_X7_checksum_b91 {l : Launch} {G : gG} {h : gH} : ∀ (n : Nat) (l0 : Nat) (l1 : Int64) (l3 : Int32), GX l G M_X7_checksum (g_phi G (g_rL h) (m_R M_X7_checksum).cells (m_R M_X7_checksum).slots) 0 0 91 [some (.ref l0), some (.long l1), none, some (.int l3), none] [] h (f_X7_checksum_b91 h n l0 l1 l3) := by
  intro n
  induction n with
  | zero => intros; exact X_none
  | succ n ih =>
    intro l0 l1 l3
    rw [f_X7_checksum_b91]
    refine X_iload_n rfl rfl rfl ?_
    refine X_aload_n rfl rfl rfl ?_
    refine X_getA rfl rfl (fun v93 => ?_)
    refine X_getI rfl rfl (fun v96 => ?_)
    refine X_bicmp_ge rfl rfl (fun _ => ?_) (fun _ => ?_)
    · refine X_aload_n rfl rfl rfl ?_
      refine X_getA rfl rfl (fun v103 => ?_)
      refine X_iload_n rfl rfl rfl ?_
      refine X_callV_AR (M' := M_X6_messageNumbered) (nA := 1) (As := [.int l3]) (st := []) (b := v103) (ci := 6) rfl rfl (by decide +kernel) rfl rfl rfl rfl rfl rfl rfl rfl (fun _ e => ct_X6_messageNumbered e) (fun v107 => ?_)
      refine X_lload_n rfl rfl rfl ?_
      refine X_callV_LR (M' := M_X3_addedTo) (nA := 1) (As := [.long l1]) (st := []) (b := v107) (ci := 3) rfl rfl (by decide +kernel) rfl rfl rfl rfl rfl rfl rfl rfl (fun _ e => ct_X3_addedTo e) (fun v111 => ?_)
      refine X_lstore_n rfl rfl rfl rfl ?_
      refine X_iinc (v := l3 + 1) rfl rfl rfl (congrArg (fun z => l3 + z) (by decide : Int32.ofInt 1 = 1)) rfl ?_
      refine X_goto rfl rfl ?_
      exact X_sub (g_sub_s (g_sub_s (g_sub_n (g_sub_s (g_sub_n g_sub_0))))) (ih _ _ _)
    · refine X_lload_n rfl rfl rfl ?_
      exact X_lret rfl rfl rfl rfl rfl rfl
set_option maxRecDepth 100000 in
theorem b_X7_checksum_b34 {l : Launch} {G : gG} {h : gH} : ∀ (n : Nat) (l0 : Nat) (l1 : Int64) (l3 : Int32), GX l G M_X7_checksum (g_phi G (g_rL h) (m_R M_X7_checksum).cells (m_R M_X7_checksum).slots) 0 0 34 [some (.ref l0), some (.long l1), none, some (.int l3), none] [] h (f_X7_checksum_b34 h n l0 l1 l3) := by
  intro n
  induction n with
  | zero => intros; exact X_none
  | succ n ih =>
    intro l0 l1 l3
    rw [f_X7_checksum_b34]
    refine X_iload_n rfl rfl rfl ?_
    refine X_iconst (v := 2) rfl rfl (by decide) ?_
    refine X_bicmp_ge rfl rfl (fun _ => ?_) (fun _ => ?_)
    · refine X_iconst (v := 0) rfl rfl (by decide) ?_
      refine X_istore rfl rfl rfl rfl ?_
      exact X_sub (g_sub_s (g_sub_s (g_sub_n (g_sub_s (g_sub_s g_sub_0))))) (b_X7_checksum_b42 ih _ _ _ _ _)
    · refine X_iconst (v := 0) rfl rfl (by decide) ?_
      refine X_istore_n rfl rfl rfl rfl ?_
      exact X_sub (g_sub_s (g_sub_s (g_sub_n (g_sub_s (g_sub_n g_sub_0))))) (b_X7_checksum_b91  _ _ _ _)
set_option maxRecDepth 100000 in
theorem b_X7_checksum_b4 {l : Launch} {G : gG} {h : gH} : ∀ (n : Nat) (l0 : Nat) (l1 : Int64) (l3 : Int32), GX l G M_X7_checksum (g_phi G (g_rL h) (m_R M_X7_checksum).cells (m_R M_X7_checksum).slots) 0 0 4 [some (.ref l0), some (.long l1), none, some (.int l3), none] [] h (f_X7_checksum_b4 h n l0 l1 l3) := by
  intro n
  induction n with
  | zero => intros; exact X_none
  | succ n ih =>
    intro l0 l1 l3
    rw [f_X7_checksum_b4]
    refine X_iload_n rfl rfl rfl ?_
    refine X_bipush (v := 13) rfl rfl (by decide) ?_
    refine X_bicmp_ge rfl rfl (fun _ => ?_) (fun _ => ?_)
    · refine X_ldc2 (v := 31) rfl rfl (by decide +kernel) ?_
      refine X_lload_n rfl rfl rfl ?_
      refine X_lmul rfl rfl ?_
      refine X_aload_n rfl rfl rfl ?_
      refine X_getA rfl rfl (fun v16 => ?_)
      refine X_iload_n rfl rfl rfl ?_
      refine X_callV_IR (M' := M_X6_figure) (nA := 1) (As := [.int l3]) (st := [.long (31 * l1)]) (b := v16) (ci := 6) rfl rfl (by decide +kernel) rfl rfl rfl rfl rfl rfl rfl rfl (fun _ e => ct_X6_figure e) (fun v20 => ?_)
      refine X_i2l rfl rfl ?_
      refine X_ladd rfl rfl ?_
      refine X_lstore_n rfl rfl rfl rfl ?_
      refine X_iinc (v := l3 + 1) rfl rfl rfl (congrArg (fun z => l3 + z) (by decide : Int32.ofInt 1 = 1)) rfl ?_
      refine X_goto rfl rfl ?_
      exact X_sub (g_sub_s (g_sub_s (g_sub_n (g_sub_s (g_sub_n g_sub_0))))) (ih _ _ _)
    · refine X_iconst (v := 0) rfl rfl (by decide) ?_
      refine X_istore_n rfl rfl rfl rfl ?_
      exact X_sub (g_sub_s (g_sub_s (g_sub_n (g_sub_s (g_sub_n g_sub_0))))) (b_X7_checksum_b34  _ _ _ _)
set_option maxRecDepth 100000 in
theorem ct_X7_checksum {l : Launch} {G : gG} {h : gH} {a0 : Nat} {r : Int64} (e : f_X7_checksum h a0 = some r) : Ct l G M_X7_checksum [.ref a0] h (some (.long r)) h := by
  refine Ct_of (L := [some (.ref a0), none, none, none, none]) ok_X7_checksum (by decide +kernel) rfl rfl rfl (ρ := (g_rL h)) (F := f_X7_checksum h a0) ?_ e rfl
  unfold f_X7_checksum
  refine X_lconst (v := 0) rfl rfl (by decide) ?_
  refine X_lstore_n rfl rfl rfl rfl ?_
  refine X_iconst (v := 0) rfl rfl (by decide) ?_
  refine X_istore_n rfl rfl rfl rfl ?_
  exact X_sub (g_sub_s (g_sub_s (g_sub_n (g_sub_s (g_sub_n g_sub_0))))) (b_X7_checksum_b4  _ _ _ _)
