def f_X8_errorOffset (h : gH) (a0 : Nat) : Option (Int32 × gH) :=
  (g_put h a0 8 0 (.int 0)).bind fun h2 =>
  (g_gI h2 a0 8 7).bind fun v6 =>
  some (v6, h2)
set_option maxRecDepth 100000 in
theorem ct_X8_errorOffset {l : Launch} {G : gG} {h : gH} {a0 : Nat} {r : Int32} {h1 : gH} (e : f_X8_errorOffset h a0 = some (r, h1)) : Ct l G M_X8_errorOffset [.ref a0] h (some (.int r)) h1 := by
  refine Ct_of (L := [some (.ref a0)]) ok_X8_errorOffset (by decide +kernel) rfl rfl rfl (ρ := g_wI) (F := f_X8_errorOffset h a0) ?_ e rfl
  unfold f_X8_errorOffset
  refine X_aload_n rfl rfl rfl ?_
  refine X_iconst (v := 0) rfl rfl (by decide) ?_
  refine X_put rfl rfl rfl rfl rfl (fun h2 => ?_)
  refine X_aload_n rfl rfl rfl ?_
  refine X_getI rfl rfl (fun v6 => ?_)
  exact X_iret rfl rfl rfl rfl rfl rfl rfl
def f_X8_mistOf_b60 (h : gH) (K4 : Nat → Int32 → Int32 → Int32 → Option (Int32)) (l0 : Nat) (l1 : Int32) (l2 : Int32) (l3 : Int32) : Option (Int32) :=
  K4 l0 l1 l2 (l3 + 1)
def f_X8_mistOf_b4 (h : gH) : Nat → Nat → Int32 → Int32 → Int32 → Option (Int32)
  | 0, _, _, _, _ => none
  | n + 1, l0, l1, l2, l3 =>
    (g_gA h l0 8 8).bind fun v6 =>
    (g_ald h v6 7).bind fun v11 =>
    (if l3 < v11 then
      (g_gA h l0 8 8).bind fun v17 =>
      (g_ald h v17 (76 + (3 * l3))).bind fun v26 =>
      (g_gA h l0 8 8).bind fun v28 =>
      (g_ald h v28 ((76 + (3 * l3)) + 1)).bind fun v39 =>
      (if (f_X8_in l1 v26 v39) = 0 then
        f_X8_mistOf_b60 h (f_X8_mistOf_b4 h n) l0 l1 l2 l3
      else
        (g_gA h l0 8 8).bind fun v47 =>
        (g_ald h v47 ((76 + (3 * l3)) + 2)).bind fun v58 =>
        f_X8_mistOf_b60 h (f_X8_mistOf_b4 h n) l0 l1 v58 l3)
    else
      some l2)
def f_X8_mistOf (h : gH) (a0 : Nat) (p1 : Int32) : Option (Int32) :=
  f_X8_mistOf_b4 h g_N a0 p1 0 0
set_option maxRecDepth 100000 in
theorem b_X8_mistOf_b60 {l : Launch} {G : gG} {h : gH} {K4 : Nat → Int32 → Int32 → Int32 → Option (Int32)} (hK4 : ∀ (l0 : Nat) (l1 : Int32) (l2 : Int32) (l3 : Int32), GX l G M_X8_mistOf (g_phi G (g_rI h) (m_R M_X8_mistOf).cells (m_R M_X8_mistOf).slots) 0 0 4 [some (.ref l0), some (.int l1), some (.int l2), some (.int l3)] [] h (K4 l0 l1 l2 l3)) (l0 : Nat) (l1 : Int32) (l2 : Int32) (l3 : Int32) : GX l G M_X8_mistOf (g_phi G (g_rI h) (m_R M_X8_mistOf).cells (m_R M_X8_mistOf).slots) 0 0 60 [some (.ref l0), some (.int l1), some (.int l2), some (.int l3)] [] h (f_X8_mistOf_b60 h K4 l0 l1 l2 l3) := by
  unfold f_X8_mistOf_b60
  refine X_iinc (v := l3 + 1) rfl rfl rfl (congrArg (fun z => l3 + z) (by decide : Int32.ofInt 1 = 1)) rfl ?_
  refine X_goto rfl rfl ?_
  exact X_sub (g_sub_s (g_sub_s (g_sub_s (g_sub_s g_sub_0)))) (hK4 _ _ _ _)
set_option maxRecDepth 100000 in
theorem b_X8_mistOf_b4 {l : Launch} {G : gG} {h : gH} : ∀ (n : Nat) (l0 : Nat) (l1 : Int32) (l2 : Int32) (l3 : Int32), GX l G M_X8_mistOf (g_phi G (g_rI h) (m_R M_X8_mistOf).cells (m_R M_X8_mistOf).slots) 0 0 4 [some (.ref l0), some (.int l1), some (.int l2), some (.int l3)] [] h (f_X8_mistOf_b4 h n l0 l1 l2 l3) := by
  intro n
  induction n with
  | zero => intros; exact X_none
  | succ n ih =>
    intro l0 l1 l2 l3
    rw [f_X8_mistOf_b4]
    refine X_iload_n rfl rfl rfl ?_
    refine X_aload_n rfl rfl rfl ?_
    refine X_getA rfl rfl (fun v6 => ?_)
    refine X_bipush (v := 7) rfl rfl (by decide) ?_
    refine X_ald rfl rfl (fun v11 => ?_)
    refine X_bicmp_ge rfl rfl (fun _ => ?_) (fun _ => ?_)
    · refine X_iload_n rfl rfl rfl ?_
      refine X_aload_n rfl rfl rfl ?_
      refine X_getA rfl rfl (fun v17 => ?_)
      refine X_bipush (v := 76) rfl rfl (by decide) ?_
      refine X_iconst (v := 3) rfl rfl (by decide) ?_
      refine X_iload_n rfl rfl rfl ?_
      refine X_imul rfl rfl ?_
      refine X_iadd rfl rfl ?_
      refine X_ald rfl rfl (fun v26 => ?_)
      refine X_aload_n rfl rfl rfl ?_
      refine X_getA rfl rfl (fun v28 => ?_)
      refine X_bipush (v := 76) rfl rfl (by decide) ?_
      refine X_iconst (v := 3) rfl rfl (by decide) ?_
      refine X_iload_n rfl rfl rfl ?_
      refine X_imul rfl rfl ?_
      refine X_iadd rfl rfl ?_
      refine X_iconst (v := 1) rfl rfl (by decide) ?_
      refine X_iadd rfl rfl ?_
      refine X_ald rfl rfl (fun v39 => ?_)
      refine X_callS_IP (v := f_X8_in l1 v26 v39) (M' := M_X8_in) (nA := 3) (As := [.int l1, .int v26, .int v39]) (st := []) rfl rfl (by decide +kernel) rfl rfl rfl rfl rfl rfl rfl ct_X8_in ?_
      refine X_bif_eq rfl rfl (fun _ => ?_) (fun _ => ?_)
      · exact X_sub (g_sub_s (g_sub_s (g_sub_s (g_sub_s g_sub_0)))) (b_X8_mistOf_b60 ih _ _ _ _)
      · refine X_aload_n rfl rfl rfl ?_
        refine X_getA rfl rfl (fun v47 => ?_)
        refine X_bipush (v := 76) rfl rfl (by decide) ?_
        refine X_iconst (v := 3) rfl rfl (by decide) ?_
        refine X_iload_n rfl rfl rfl ?_
        refine X_imul rfl rfl ?_
        refine X_iadd rfl rfl ?_
        refine X_iconst (v := 2) rfl rfl (by decide) ?_
        refine X_iadd rfl rfl ?_
        refine X_ald rfl rfl (fun v58 => ?_)
        refine X_istore_n rfl rfl rfl rfl ?_
        exact X_sub (g_sub_s (g_sub_s (g_sub_s (g_sub_s g_sub_0)))) (b_X8_mistOf_b60 ih _ _ _ _)
    · refine X_iload_n rfl rfl rfl ?_
      exact X_iret rfl rfl rfl rfl rfl rfl rfl
set_option maxRecDepth 100000 in
theorem ct_X8_mistOf {l : Launch} {G : gG} {h : gH} {a0 : Nat} {p1 : Int32} {r : Int32} (e : f_X8_mistOf h a0 p1 = some r) : Ct l G M_X8_mistOf [.ref a0, .int p1] h (some (.int r)) h := by
  refine Ct_of (L := [some (.ref a0), some (.int p1), none, none]) ok_X8_mistOf (by decide +kernel) rfl rfl rfl (ρ := (g_rI h)) (F := f_X8_mistOf h a0 p1) ?_ e rfl
  unfold f_X8_mistOf
  refine X_iconst (v := 0) rfl rfl (by decide) ?_
  refine X_istore_n rfl rfl rfl rfl ?_
  refine X_iconst (v := 0) rfl rfl (by decide) ?_
  refine X_istore_n rfl rfl rfl rfl ?_
  exact X_sub (g_sub_s (g_sub_s (g_sub_s (g_sub_s g_sub_0)))) (b_X8_mistOf_b4  _ _ _ _ _)
def f_X8_keyOf_b79 (h : gH) (K14 : Nat → Int32 → Int32 → Int32 → Int32 → Int32 → Option (Int32)) (l0 : Nat) (l2 : Int32) (l3 : Int32) (l4 : Int32) (l5 : Int32) (l6 : Int32) : Option (Int32) :=
  K14 l0 l2 l3 l4 l5 (l6 + 1)
def f_X8_keyOf_b14 (h : gH) : Nat → Nat → Int32 → Int32 → Int32 → Int32 → Int32 → Option (Int32)
  | 0, _, _, _, _, _, _ => none
  | n + 1, l0, l2, l3, l4, l5, l6 =>
    (g_gA h l0 8 8).bind fun v17 =>
    (g_ald h v17 (l3 + 0)).bind fun v23 =>
    (if l6 < v23 then
      (g_gA h l0 8 8).bind fun v28 =>
      (g_ald h v28 ((l3 + 1) + (2 * l6))).bind fun v39 =>
      (if v39 ≤ l2 then
        (if v39 < l4 then
          f_X8_keyOf_b79 h (f_X8_keyOf_b14 h n) l0 l2 l3 l4 l5 l6
        else
          (g_gA h l0 8 8).bind fun v63 =>
          (g_ald h v63 (((l3 + 1) + (2 * l6)) + 1)).bind fun v76 =>
          f_X8_keyOf_b79 h (f_X8_keyOf_b14 h n) l0 l2 l3 v39 v76 l6)
      else
        f_X8_keyOf_b79 h (f_X8_keyOf_b14 h n) l0 l2 l3 l4 l5 l6)
    else
      some l5)
def f_X8_keyOf (h : gH) (a0 : Nat) (p1 : Int32) (p2 : Int32) : Option (Int32) :=
  f_X8_keyOf_b14 h g_N a0 p2 (f_X8_stationAt p1) (-1) 0 0
set_option maxRecDepth 100000 in
theorem b_X8_keyOf_b79 {l : Launch} {G : gG} {h : gH} {K14 : Nat → Int32 → Int32 → Int32 → Int32 → Int32 → Option (Int32)} (hK14 : ∀ (l0 : Nat) (l2 : Int32) (l3 : Int32) (l4 : Int32) (l5 : Int32) (l6 : Int32), GX l G M_X8_keyOf (g_phi G (g_rI h) (m_R M_X8_keyOf).cells (m_R M_X8_keyOf).slots) 0 0 14 [some (.ref l0), none, some (.int l2), some (.int l3), some (.int l4), some (.int l5), some (.int l6), none] [] h (K14 l0 l2 l3 l4 l5 l6)) (l0 : Nat) (l2 : Int32) (l3 : Int32) (l4 : Int32) (l5 : Int32) (l6 : Int32) : GX l G M_X8_keyOf (g_phi G (g_rI h) (m_R M_X8_keyOf).cells (m_R M_X8_keyOf).slots) 0 0 79 [some (.ref l0), none, some (.int l2), some (.int l3), some (.int l4), some (.int l5), some (.int l6), none] [] h (f_X8_keyOf_b79 h K14 l0 l2 l3 l4 l5 l6) := by
  unfold f_X8_keyOf_b79
  refine X_iinc (v := l6 + 1) rfl rfl rfl (congrArg (fun z => l6 + z) (by decide : Int32.ofInt 1 = 1)) rfl ?_
  refine X_goto rfl rfl ?_
  exact X_sub (g_sub_s (g_sub_n (g_sub_s (g_sub_s (g_sub_s (g_sub_s (g_sub_s (g_sub_n g_sub_0)))))))) (hK14 _ _ _ _ _ _)
set_option maxRecDepth 100000 in
theorem b_X8_keyOf_b14 {l : Launch} {G : gG} {h : gH} : ∀ (n : Nat) (l0 : Nat) (l2 : Int32) (l3 : Int32) (l4 : Int32) (l5 : Int32) (l6 : Int32), GX l G M_X8_keyOf (g_phi G (g_rI h) (m_R M_X8_keyOf).cells (m_R M_X8_keyOf).slots) 0 0 14 [some (.ref l0), none, some (.int l2), some (.int l3), some (.int l4), some (.int l5), some (.int l6), none] [] h (f_X8_keyOf_b14 h n l0 l2 l3 l4 l5 l6) := by
  intro n
  induction n with
  | zero => intros; exact X_none
  | succ n ih =>
    intro l0 l2 l3 l4 l5 l6
    rw [f_X8_keyOf_b14]
    refine X_iload rfl rfl rfl ?_
    refine X_aload_n rfl rfl rfl ?_
    refine X_getA rfl rfl (fun v17 => ?_)
    refine X_iload_n rfl rfl rfl ?_
    refine X_iconst (v := 0) rfl rfl (by decide) ?_
    refine X_iadd rfl rfl ?_
    refine X_ald rfl rfl (fun v23 => ?_)
    refine X_bicmp_ge rfl rfl (fun _ => ?_) (fun _ => ?_)
    · refine X_aload_n rfl rfl rfl ?_
      refine X_getA rfl rfl (fun v28 => ?_)
      refine X_iload_n rfl rfl rfl ?_
      refine X_iconst (v := 1) rfl rfl (by decide) ?_
      refine X_iadd rfl rfl ?_
      refine X_iconst (v := 2) rfl rfl (by decide) ?_
      refine X_iload rfl rfl rfl ?_
      refine X_imul rfl rfl ?_
      refine X_iadd rfl rfl ?_
      refine X_ald rfl rfl (fun v39 => ?_)
      refine X_istore rfl rfl rfl rfl ?_
      refine X_iload rfl rfl rfl ?_
      refine X_iload_n rfl rfl rfl ?_
      refine X_bicmp_gt rfl rfl (fun _ => ?_) (fun _ => ?_)
      · refine X_iload rfl rfl rfl ?_
        refine X_iload rfl rfl rfl ?_
        refine X_bicmp_ge rfl rfl (fun _ => ?_) (fun _ => ?_)
        · refine X_goto rfl rfl ?_
          exact X_sub (g_sub_s (g_sub_n (g_sub_s (g_sub_s (g_sub_s (g_sub_s (g_sub_s (g_sub_n g_sub_0)))))))) (b_X8_keyOf_b79 ih _ _ _ _ _ _)
        · refine X_iload rfl rfl rfl ?_
          refine X_istore rfl rfl rfl rfl ?_
          refine X_aload_n rfl rfl rfl ?_
          refine X_getA rfl rfl (fun v63 => ?_)
          refine X_iload_n rfl rfl rfl ?_
          refine X_iconst (v := 1) rfl rfl (by decide) ?_
          refine X_iadd rfl rfl ?_
          refine X_iconst (v := 2) rfl rfl (by decide) ?_
          refine X_iload rfl rfl rfl ?_
          refine X_imul rfl rfl ?_
          refine X_iadd rfl rfl ?_
          refine X_iconst (v := 1) rfl rfl (by decide) ?_
          refine X_iadd rfl rfl ?_
          refine X_ald rfl rfl (fun v76 => ?_)
          refine X_istore rfl rfl rfl rfl ?_
          exact X_sub (g_sub_s (g_sub_n (g_sub_s (g_sub_s (g_sub_s (g_sub_s (g_sub_s (g_sub_n g_sub_0)))))))) (b_X8_keyOf_b79 ih _ _ _ _ _ _)
      · exact X_sub (g_sub_s (g_sub_n (g_sub_s (g_sub_s (g_sub_s (g_sub_s (g_sub_s (g_sub_n g_sub_0)))))))) (b_X8_keyOf_b79 ih _ _ _ _ _ _)
    · refine X_iload rfl rfl rfl ?_
      exact X_iret rfl rfl rfl rfl rfl rfl rfl
set_option maxRecDepth 100000 in
theorem ct_X8_keyOf {l : Launch} {G : gG} {h : gH} {a0 : Nat} {p1 : Int32} {p2 : Int32} {r : Int32} (e : f_X8_keyOf h a0 p1 p2 = some r) : Ct l G M_X8_keyOf [.ref a0, .int p1, .int p2] h (some (.int r)) h := by
  refine Ct_of (L := [some (.ref a0), some (.int p1), some (.int p2), none, none, none, none, none]) ok_X8_keyOf (by decide +kernel) rfl rfl rfl (ρ := (g_rI h)) (F := f_X8_keyOf h a0 p1 p2) ?_ e rfl
  unfold f_X8_keyOf
  refine X_iload_n rfl rfl rfl ?_
  refine X_callS_IP (v := f_X8_stationAt p1) (M' := M_X8_stationAt) (nA := 1) (As := [.int p1]) (st := []) rfl rfl (by decide +kernel) rfl rfl rfl rfl rfl rfl rfl ct_X8_stationAt ?_
  refine X_istore_n rfl rfl rfl rfl ?_
  refine X_iconst (v := -1) rfl rfl (by decide) ?_
  refine X_istore rfl rfl rfl rfl ?_
  refine X_iconst (v := 0) rfl rfl (by decide) ?_
  refine X_istore rfl rfl rfl rfl ?_
  refine X_iconst (v := 0) rfl rfl (by decide) ?_
  refine X_istore rfl rfl rfl rfl ?_
  exact X_sub (g_sub_s (g_sub_n (g_sub_s (g_sub_s (g_sub_s (g_sub_s (g_sub_s (g_sub_n g_sub_0)))))))) (b_X8_keyOf_b14  _ _ _ _ _ _ _)
def f_X8_ofChannel (h : gH) (a0 : Nat) (p1 : Int32) (p2 : Int32) : Option (Int32) :=
  (g_gA h a0 8 8).bind fun v1 =>
  (g_ald h v1 ((f_X8_channelAt p1) + p2)).bind fun v10 =>
  some v10
set_option maxRecDepth 100000 in
theorem ct_X8_ofChannel {l : Launch} {G : gG} {h : gH} {a0 : Nat} {p1 : Int32} {p2 : Int32} {r : Int32} (e : f_X8_ofChannel h a0 p1 p2 = some r) : Ct l G M_X8_ofChannel [.ref a0, .int p1, .int p2] h (some (.int r)) h := by
  refine Ct_of (L := [some (.ref a0), some (.int p1), some (.int p2)]) ok_X8_ofChannel (by decide +kernel) rfl rfl rfl (ρ := (g_rI h)) (F := f_X8_ofChannel h a0 p1 p2) ?_ e rfl
  unfold f_X8_ofChannel
  refine X_aload_n rfl rfl rfl ?_
  refine X_getA rfl rfl (fun v1 => ?_)
  refine X_iload_n rfl rfl rfl ?_
  refine X_callS_IP (v := f_X8_channelAt p1) (M' := M_X8_channelAt) (nA := 1) (As := [.int p1]) (st := [.ref v1]) rfl rfl (by decide +kernel) rfl rfl rfl rfl rfl rfl rfl ct_X8_channelAt ?_
  refine X_iload_n rfl rfl rfl ?_
  refine X_iadd rfl rfl ?_
  refine X_ald rfl rfl (fun v10 => ?_)
  exact X_iret rfl rfl rfl rfl rfl rfl rfl
def f_X8_setChannel (h : gH) (a0 : Nat) (p1 : Int32) (p2 : Int32) (p3 : Int32) : Option gH :=
  (g_gA h a0 8 8).bind fun v1 =>
  (g_ast h v1 ((f_X8_channelAt p1) + p2) p3).bind fun h11 =>
  some h11
set_option maxRecDepth 100000 in
theorem ct_X8_setChannel {l : Launch} {G : gG} {h : gH} {a0 : Nat} {p1 : Int32} {p2 : Int32} {p3 : Int32} {h1 : gH} (e : f_X8_setChannel h a0 p1 p2 p3 = some h1) : Ct l G M_X8_setChannel [.ref a0, .int p1, .int p2, .int p3] h none h1 := by
  refine Ct_of (L := [some (.ref a0), some (.int p1), some (.int p2), some (.int p3)]) ok_X8_setChannel (by decide +kernel) rfl rfl rfl (ρ := g_wU) (F := f_X8_setChannel h a0 p1 p2 p3) ?_ e rfl
  unfold f_X8_setChannel
  refine X_aload_n rfl rfl rfl ?_
  refine X_getA rfl rfl (fun v1 => ?_)
  refine X_iload_n rfl rfl rfl ?_
  refine X_callS_IP (v := f_X8_channelAt p1) (M' := M_X8_channelAt) (nA := 1) (As := [.int p1]) (st := [.ref v1]) rfl rfl (by decide +kernel) rfl rfl rfl rfl rfl rfl rfl ct_X8_channelAt ?_
  refine X_iload_n rfl rfl rfl ?_
  refine X_iadd rfl rfl ?_
  refine X_iload_n rfl rfl rfl ?_
  refine X_ast rfl rfl (fun h11 => ?_)
  exact X_vret rfl rfl rfl rfl rfl rfl
def f_X8_isOpen_b54 (h : gH) : Option (Int32) :=
  some 0
def f_X8_isOpen_b69 (h : gH) : Option (Int32) :=
  some 1
def f_X8_isOpen (h : gH) (a0 : Nat) (p1 : Int32) : Option (Int32) :=
  (g_gA h a0 8 8).bind fun v1 =>
  (g_ald h v1 0).bind fun v5 =>
  bif g_is h a0 8 then
  (f_X8_ofChannel h a0 p1 1).bind fun v13 =>
  bif g_is h a0 8 then
  (f_X8_ofChannel h a0 p1 2).bind fun v20 =>
  (if v13 = v20 then
    some 1
  else
    (if v13 < v20 then
      (if v13 ≤ (g_rem v5 24) then
        (if (g_rem v5 24) < v20 then
          some 1
        else
          f_X8_isOpen_b54 h)
      else
        f_X8_isOpen_b54 h)
    else
      (if (g_rem v5 24) < v13 then
        (if (g_rem v5 24) < v20 then
          f_X8_isOpen_b69 h
        else
          some 0)
      else
        f_X8_isOpen_b69 h)))
  else none
  else none
set_option maxRecDepth 100000 in
theorem b_X8_isOpen_b54 {l : Launch} {G : gG} {h : gH} : GX l G M_X8_isOpen (g_phi G (g_rI h) (m_R M_X8_isOpen).cells (m_R M_X8_isOpen).slots) 0 0 54 [none, none, none, none, none] [] h (f_X8_isOpen_b54 h) := by
  unfold f_X8_isOpen_b54
  refine X_iconst (v := 0) rfl rfl (by decide) ?_
  refine X_goto rfl rfl ?_
  exact X_iret rfl rfl rfl rfl rfl rfl rfl
set_option maxRecDepth 100000 in
theorem b_X8_isOpen_b69 {l : Launch} {G : gG} {h : gH} : GX l G M_X8_isOpen (g_phi G (g_rI h) (m_R M_X8_isOpen).cells (m_R M_X8_isOpen).slots) 0 0 69 [none, none, none, none, none] [] h (f_X8_isOpen_b69 h) := by
  unfold f_X8_isOpen_b69
  refine X_iconst (v := 1) rfl rfl (by decide) ?_
  refine X_goto rfl rfl ?_
  exact X_iret rfl rfl rfl rfl rfl rfl rfl
set_option maxRecDepth 100000 in
theorem ct_X8_isOpen {l : Launch} {G : gG} {h : gH} {a0 : Nat} {p1 : Int32} {r : Int32} (e : f_X8_isOpen h a0 p1 = some r) : Ct l G M_X8_isOpen [.ref a0, .int p1] h (some (.int r)) h := by
  refine Ct_of (L := [some (.ref a0), some (.int p1), none, none, none]) ok_X8_isOpen (by decide +kernel) rfl rfl rfl (ρ := (g_rI h)) (F := f_X8_isOpen h a0 p1) ?_ e rfl
  unfold f_X8_isOpen
  refine X_aload_n rfl rfl rfl ?_
  refine X_getA rfl rfl (fun v1 => ?_)
  refine X_iconst (v := 0) rfl rfl (by decide) ?_
  refine X_ald rfl rfl (fun v5 => ?_)
  refine X_bipush (v := 24) rfl rfl (by decide) ?_
  refine X_irem (v := g_rem v5 24) rfl rfl rfl (by decide) ?_
  refine X_istore_n rfl rfl rfl rfl ?_
  refine X_aload_n rfl rfl rfl ?_
  refine X_iload_n rfl rfl rfl ?_
  refine X_iconst (v := 1) rfl rfl (by decide) ?_
  refine X_callV_IR (M' := M_X8_ofChannel) (nA := 2) (As := [.int p1, .int 1]) (st := []) (b := a0) (ci := 8) rfl rfl (by decide +kernel) rfl rfl rfl rfl rfl rfl rfl rfl (fun _ e => ct_X8_ofChannel e) (fun v13 => ?_)
  refine X_istore_n rfl rfl rfl rfl ?_
  refine X_aload_n rfl rfl rfl ?_
  refine X_iload_n rfl rfl rfl ?_
  refine X_iconst (v := 2) rfl rfl (by decide) ?_
  refine X_callV_IR (M' := M_X8_ofChannel) (nA := 2) (As := [.int p1, .int 2]) (st := []) (b := a0) (ci := 8) rfl rfl (by decide +kernel) rfl rfl rfl rfl rfl rfl rfl rfl (fun _ e => ct_X8_ofChannel e) (fun v20 => ?_)
  refine X_istore rfl rfl rfl rfl ?_
  refine X_iload_n rfl rfl rfl ?_
  refine X_iload rfl rfl rfl ?_
  refine X_bicmp_ne rfl rfl (fun _ => ?_) (fun _ => ?_)
  · refine X_iconst (v := 1) rfl rfl (by decide) ?_
    exact X_iret rfl rfl rfl rfl rfl rfl rfl
  · refine X_iload_n rfl rfl rfl ?_
    refine X_iload rfl rfl rfl ?_
    refine X_bicmp_ge rfl rfl (fun _ => ?_) (fun _ => ?_)
    · refine X_iload_n rfl rfl rfl ?_
      refine X_iload_n rfl rfl rfl ?_
      refine X_bicmp_lt rfl rfl (fun _ => ?_) (fun _ => ?_)
      · refine X_iload_n rfl rfl rfl ?_
        refine X_iload rfl rfl rfl ?_
        refine X_bicmp_ge rfl rfl (fun _ => ?_) (fun _ => ?_)
        · refine X_iconst (v := 1) rfl rfl (by decide) ?_
          refine X_goto rfl rfl ?_
          exact X_iret rfl rfl rfl rfl rfl rfl rfl
        · exact X_sub (g_sub_n (g_sub_n (g_sub_n (g_sub_n (g_sub_n g_sub_0))))) (b_X8_isOpen_b54  )
      · exact X_sub (g_sub_n (g_sub_n (g_sub_n (g_sub_n (g_sub_n g_sub_0))))) (b_X8_isOpen_b54  )
    · refine X_iload_n rfl rfl rfl ?_
      refine X_iload_n rfl rfl rfl ?_
      refine X_bicmp_ge rfl rfl (fun _ => ?_) (fun _ => ?_)
      · refine X_iload_n rfl rfl rfl ?_
        refine X_iload rfl rfl rfl ?_
        refine X_bicmp_ge rfl rfl (fun _ => ?_) (fun _ => ?_)
        · exact X_sub (g_sub_n (g_sub_n (g_sub_n (g_sub_n (g_sub_n g_sub_0))))) (b_X8_isOpen_b69  )
        · refine X_iconst (v := 0) rfl rfl (by decide) ?_
          exact X_iret rfl rfl rfl rfl rfl rfl rfl
      · exact X_sub (g_sub_n (g_sub_n (g_sub_n (g_sub_n (g_sub_n g_sub_0))))) (b_X8_isOpen_b69  )
def f_X8_rest (h : gH) (a0 : Nat) (p1 : Int32) : Option gH :=
  bif g_is h a0 8 then
  (f_X8_setChannel h a0 p1 3 (-1)).bind fun h4 =>
  bif g_is h4 a0 8 then
  (f_X8_setChannel h4 a0 p1 4 (-1)).bind fun h11 =>
  some h11
  else none
  else none
set_option maxRecDepth 100000 in
theorem ct_X8_rest {l : Launch} {G : gG} {h : gH} {a0 : Nat} {p1 : Int32} {h1 : gH} (e : f_X8_rest h a0 p1 = some h1) : Ct l G M_X8_rest [.ref a0, .int p1] h none h1 := by
  refine Ct_of (L := [some (.ref a0), some (.int p1)]) ok_X8_rest (by decide +kernel) rfl rfl rfl (ρ := g_wU) (F := f_X8_rest h a0 p1) ?_ e rfl
  unfold f_X8_rest
  refine X_aload_n rfl rfl rfl ?_
  refine X_iload_n rfl rfl rfl ?_
  refine X_iconst (v := 3) rfl rfl (by decide) ?_
  refine X_iconst (v := -1) rfl rfl (by decide) ?_
  refine X_callV_UW (M' := M_X8_setChannel) (nA := 3) (As := [.int p1, .int 3, .int (-1)]) (st := []) (b := a0) (ci := 8) rfl rfl (by decide +kernel) rfl rfl rfl rfl rfl rfl rfl rfl (fun _ e => ct_X8_setChannel e) (fun h4 => ?_)
  refine X_aload_n rfl rfl rfl ?_
  refine X_iload_n rfl rfl rfl ?_
  refine X_iconst (v := 4) rfl rfl (by decide) ?_
  refine X_iconst (v := -1) rfl rfl (by decide) ?_
  refine X_callV_UW (M' := M_X8_setChannel) (nA := 3) (As := [.int p1, .int 4, .int (-1)]) (st := []) (b := a0) (ci := 8) rfl rfl (by decide +kernel) rfl rfl rfl rfl rfl rfl rfl rfl (fun _ e => ct_X8_setChannel e) (fun h11 => ?_)
  exact X_vret rfl rfl rfl rfl rfl rfl
def f_X8_air_b87 (h : gH) (l4 : Int32) (s0 : Int32) (s1 : Int32) (s2 : Int32) (s3 : Nat) : Option (Int32 × gH) :=
  (g_ast h s3 s2 (s1 + s0)).bind fun h88 =>
  some (l4, h88)
def f_X8_air_b67 (h : gH) (l0 : Nat) (l4 : Int32) (s0 : Int32) (s1 : Int32) (s2 : Int32) (s3 : Nat) : Option (Int32 × gH) :=
  (g_ast h s3 s2 (s1 + s0)).bind fun h68 =>
  (g_gA h68 l0 8 8).bind fun v70 =>
  (g_ald h68 v70 4).bind fun v75 =>
  (if l4 = 2 then
    f_X8_air_b87 h68 l4 1 v75 4 v70
  else
    f_X8_air_b87 h68 l4 0 v75 4 v70)
def f_X8_air_b37 (h : gH) (l0 : Nat) (s0 : Int32) : Option (Int32 × gH) :=
  (g_gA h l0 8 8).bind fun v40 =>
  (g_ald h v40 3).bind fun v45 =>
  (g_ast h v40 3 (v45 + 1)).bind fun h48 =>
  (g_gA h48 l0 8 8).bind fun v50 =>
  (g_ald h48 v50 5).bind fun v55 =>
  (if s0 = 1 then
    f_X8_air_b67 h48 l0 s0 1 v55 5 v50
  else
    f_X8_air_b67 h48 l0 s0 0 v55 5 v50)
def f_X8_air (h : gH) (a0 : Nat) (p1 : Int32) : Option (Int32 × gH) :=
  (g_gA h a0 8 8).bind fun v2 =>
  (g_ald h v2 0).bind fun v6 =>
  bif g_is h a0 8 then
  (f_X8_mistOf h a0 v6).bind fun v7 =>
  bif g_is h a0 8 then
  (f_X8_ofChannel h a0 p1 0).bind fun v14 =>
  (if v14 < v7 then
    f_X8_air_b37 h a0 2
  else
    (if v7 = v14 then
      f_X8_air_b37 h a0 1
    else
      f_X8_air_b37 h a0 0))
  else none
  else none
set_option maxRecDepth 100000 in
theorem b_X8_air_b87 {l : Launch} {G : gG} (h : gH) (l4 : Int32) (s0 : Int32) (s1 : Int32) (s2 : Int32) (s3 : Nat) : GX l G M_X8_air (g_phi G g_wI (m_R M_X8_air).cells (m_R M_X8_air).slots) 0 0 87 [none, none, none, none, some (.int l4)] [.int s0, .int s1, .int s2, .ref s3] h (f_X8_air_b87 h l4 s0 s1 s2 s3) := by
  unfold f_X8_air_b87
  refine X_iadd rfl rfl ?_
  refine X_ast rfl rfl (fun h88 => ?_)
  refine X_iload rfl rfl rfl ?_
  exact X_iret rfl rfl rfl rfl rfl rfl rfl
set_option maxRecDepth 100000 in
theorem b_X8_air_b67 {l : Launch} {G : gG} (h : gH) (l0 : Nat) (l4 : Int32) (s0 : Int32) (s1 : Int32) (s2 : Int32) (s3 : Nat) : GX l G M_X8_air (g_phi G g_wI (m_R M_X8_air).cells (m_R M_X8_air).slots) 0 0 67 [some (.ref l0), none, none, none, some (.int l4)] [.int s0, .int s1, .int s2, .ref s3] h (f_X8_air_b67 h l0 l4 s0 s1 s2 s3) := by
  unfold f_X8_air_b67
  refine X_iadd rfl rfl ?_
  refine X_ast rfl rfl (fun h68 => ?_)
  refine X_aload_n rfl rfl rfl ?_
  refine X_getA rfl rfl (fun v70 => ?_)
  refine X_iconst (v := 4) rfl rfl (by decide) ?_
  refine X_dup2 rfl rfl rfl rfl ?_
  refine X_ald rfl rfl (fun v75 => ?_)
  refine X_iload rfl rfl rfl ?_
  refine X_iconst (v := 2) rfl rfl (by decide) ?_
  refine X_bicmp_ne rfl rfl (fun _ => ?_) (fun _ => ?_)
  · refine X_iconst (v := 1) rfl rfl (by decide) ?_
    refine X_goto rfl rfl ?_
    exact X_sub (g_sub_n (g_sub_n (g_sub_n (g_sub_n (g_sub_s g_sub_0))))) (b_X8_air_b87  _ _ _ _ _ _)
  · refine X_iconst (v := 0) rfl rfl (by decide) ?_
    exact X_sub (g_sub_n (g_sub_n (g_sub_n (g_sub_n (g_sub_s g_sub_0))))) (b_X8_air_b87  _ _ _ _ _ _)
set_option maxRecDepth 100000 in
theorem b_X8_air_b37 {l : Launch} {G : gG} (h : gH) (l0 : Nat) (s0 : Int32) : GX l G M_X8_air (g_phi G g_wI (m_R M_X8_air).cells (m_R M_X8_air).slots) 0 0 37 [some (.ref l0), none, none, none, none] [.int s0] h (f_X8_air_b37 h l0 s0) := by
  unfold f_X8_air_b37
  refine X_istore rfl rfl rfl rfl ?_
  refine X_aload_n rfl rfl rfl ?_
  refine X_getA rfl rfl (fun v40 => ?_)
  refine X_iconst (v := 3) rfl rfl (by decide) ?_
  refine X_dup2 rfl rfl rfl rfl ?_
  refine X_ald rfl rfl (fun v45 => ?_)
  refine X_iconst (v := 1) rfl rfl (by decide) ?_
  refine X_iadd rfl rfl ?_
  refine X_ast rfl rfl (fun h48 => ?_)
  refine X_aload_n rfl rfl rfl ?_
  refine X_getA rfl rfl (fun v50 => ?_)
  refine X_iconst (v := 5) rfl rfl (by decide) ?_
  refine X_dup2 rfl rfl rfl rfl ?_
  refine X_ald rfl rfl (fun v55 => ?_)
  refine X_iload rfl rfl rfl ?_
  refine X_iconst (v := 1) rfl rfl (by decide) ?_
  refine X_bicmp_ne rfl rfl (fun _ => ?_) (fun _ => ?_)
  · refine X_iconst (v := 1) rfl rfl (by decide) ?_
    refine X_goto rfl rfl ?_
    exact X_sub (g_sub_s (g_sub_n (g_sub_n (g_sub_n (g_sub_s g_sub_0))))) (b_X8_air_b67  _ _ _ _ _ _ _)
  · refine X_iconst (v := 0) rfl rfl (by decide) ?_
    exact X_sub (g_sub_s (g_sub_n (g_sub_n (g_sub_n (g_sub_s g_sub_0))))) (b_X8_air_b67  _ _ _ _ _ _ _)
set_option maxRecDepth 100000 in
theorem ct_X8_air {l : Launch} {G : gG} {h : gH} {a0 : Nat} {p1 : Int32} {r : Int32} {h1 : gH} (e : f_X8_air h a0 p1 = some (r, h1)) : Ct l G M_X8_air [.ref a0, .int p1] h (some (.int r)) h1 := by
  refine Ct_of (L := [some (.ref a0), some (.int p1), none, none, none]) ok_X8_air (by decide +kernel) rfl rfl rfl (ρ := g_wI) (F := f_X8_air h a0 p1) ?_ e rfl
  unfold f_X8_air
  refine X_aload_n rfl rfl rfl ?_
  refine X_aload_n rfl rfl rfl ?_
  refine X_getA rfl rfl (fun v2 => ?_)
  refine X_iconst (v := 0) rfl rfl (by decide) ?_
  refine X_ald rfl rfl (fun v6 => ?_)
  refine X_callV_IR (M' := M_X8_mistOf) (nA := 1) (As := [.int v6]) (st := []) (b := a0) (ci := 8) rfl rfl (by decide +kernel) rfl rfl rfl rfl rfl rfl rfl rfl (fun _ e => ct_X8_mistOf e) (fun v7 => ?_)
  refine X_istore_n rfl rfl rfl rfl ?_
  refine X_aload_n rfl rfl rfl ?_
  refine X_iload_n rfl rfl rfl ?_
  refine X_iconst (v := 0) rfl rfl (by decide) ?_
  refine X_callV_IR (M' := M_X8_ofChannel) (nA := 2) (As := [.int p1, .int 0]) (st := []) (b := a0) (ci := 8) rfl rfl (by decide +kernel) rfl rfl rfl rfl rfl rfl rfl rfl (fun _ e => ct_X8_ofChannel e) (fun v14 => ?_)
  refine X_istore_n rfl rfl rfl rfl ?_
  refine X_iload_n rfl rfl rfl ?_
  refine X_iload_n rfl rfl rfl ?_
  refine X_bicmp_le rfl rfl (fun _ => ?_) (fun _ => ?_)
  · refine X_iconst (v := 2) rfl rfl (by decide) ?_
    refine X_goto rfl rfl ?_
    exact X_sub (g_sub_s (g_sub_n (g_sub_n (g_sub_n (g_sub_n g_sub_0))))) (b_X8_air_b37  _ _ _)
  · refine X_iload_n rfl rfl rfl ?_
    refine X_iload_n rfl rfl rfl ?_
    refine X_bicmp_ne rfl rfl (fun _ => ?_) (fun _ => ?_)
    · refine X_iconst (v := 1) rfl rfl (by decide) ?_
      refine X_goto rfl rfl ?_
      exact X_sub (g_sub_s (g_sub_n (g_sub_n (g_sub_n (g_sub_n g_sub_0))))) (b_X8_air_b37  _ _ _)
    · refine X_iconst (v := 0) rfl rfl (by decide) ?_
      exact X_sub (g_sub_s (g_sub_n (g_sub_n (g_sub_n (g_sub_n g_sub_0))))) (b_X8_air_b37  _ _ _)
def f_X8_of (h : gH) (a0 : Nat) (p1 : Int32) (p2 : Int32) : Option (Int32) :=
  (g_gA h a0 8 8).bind fun v1 =>
  (g_ald h v1 ((f_X8_messageAt p1) + p2)).bind fun v10 =>
  some v10
set_option maxRecDepth 100000 in
theorem ct_X8_of {l : Launch} {G : gG} {h : gH} {a0 : Nat} {p1 : Int32} {p2 : Int32} {r : Int32} (e : f_X8_of h a0 p1 p2 = some r) : Ct l G M_X8_of [.ref a0, .int p1, .int p2] h (some (.int r)) h := by
  refine Ct_of (L := [some (.ref a0), some (.int p1), some (.int p2)]) ok_X8_of (by decide +kernel) rfl rfl rfl (ρ := (g_rI h)) (F := f_X8_of h a0 p1 p2) ?_ e rfl
  unfold f_X8_of
  refine X_aload_n rfl rfl rfl ?_
  refine X_getA rfl rfl (fun v1 => ?_)
  refine X_iload_n rfl rfl rfl ?_
  refine X_callS_IP (v := f_X8_messageAt p1) (M' := M_X8_messageAt) (nA := 1) (As := [.int p1]) (st := [.ref v1]) rfl rfl (by decide +kernel) rfl rfl rfl rfl rfl rfl rfl ct_X8_messageAt ?_
  refine X_iload_n rfl rfl rfl ?_
  refine X_iadd rfl rfl ?_
  refine X_ald rfl rfl (fun v10 => ?_)
  exact X_iret rfl rfl rfl rfl rfl rfl rfl
def f_X8_set (h : gH) (a0 : Nat) (p1 : Int32) (p2 : Int32) (p3 : Int32) : Option gH :=
  (g_gA h a0 8 8).bind fun v1 =>
  (g_ast h v1 ((f_X8_messageAt p1) + p2) p3).bind fun h11 =>
  some h11
set_option maxRecDepth 100000 in
theorem ct_X8_set {l : Launch} {G : gG} {h : gH} {a0 : Nat} {p1 : Int32} {p2 : Int32} {p3 : Int32} {h1 : gH} (e : f_X8_set h a0 p1 p2 p3 = some h1) : Ct l G M_X8_set [.ref a0, .int p1, .int p2, .int p3] h none h1 := by
  refine Ct_of (L := [some (.ref a0), some (.int p1), some (.int p2), some (.int p3)]) ok_X8_set (by decide +kernel) rfl rfl rfl (ρ := g_wU) (F := f_X8_set h a0 p1 p2 p3) ?_ e rfl
  unfold f_X8_set
  refine X_aload_n rfl rfl rfl ?_
  refine X_getA rfl rfl (fun v1 => ?_)
  refine X_iload_n rfl rfl rfl ?_
  refine X_callS_IP (v := f_X8_messageAt p1) (M' := M_X8_messageAt) (nA := 1) (As := [.int p1]) (st := [.ref v1]) rfl rfl (by decide +kernel) rfl rfl rfl rfl rfl rfl rfl ct_X8_messageAt ?_
  refine X_iload_n rfl rfl rfl ?_
  refine X_iadd rfl rfl ?_
  refine X_iload_n rfl rfl rfl ?_
  refine X_ast rfl rfl (fun h11 => ?_)
  exact X_vret rfl rfl rfl rfl rfl rfl
def f_X8_frames (h : gH) (a0 : Nat) (p1 : Int32) : Option (Int32) :=
  bif g_is h a0 8 then
  (f_X8_of h a0 p1 2).bind fun v3 =>
  (g_gA h a0 8 8).bind fun v7 =>
  (g_ald h v7 8).bind fun v12 =>
  (g_gA h a0 8 8).bind fun v17 =>
  (g_ald h v17 8).bind fun v22 =>
  if v22 = 0 then none else
  some (((v3 + v12) - 1) / v22)
  else none
set_option maxRecDepth 100000 in
theorem ct_X8_frames {l : Launch} {G : gG} {h : gH} {a0 : Nat} {p1 : Int32} {r : Int32} (e : f_X8_frames h a0 p1 = some r) : Ct l G M_X8_frames [.ref a0, .int p1] h (some (.int r)) h := by
  refine Ct_of (L := [some (.ref a0), some (.int p1)]) ok_X8_frames (by decide +kernel) rfl rfl rfl (ρ := (g_rI h)) (F := f_X8_frames h a0 p1) ?_ e rfl
  unfold f_X8_frames
  refine X_aload_n rfl rfl rfl ?_
  refine X_iload_n rfl rfl rfl ?_
  refine X_iconst (v := 2) rfl rfl (by decide) ?_
  refine X_callV_IR (M' := M_X8_of) (nA := 2) (As := [.int p1, .int 2]) (st := []) (b := a0) (ci := 8) rfl rfl (by decide +kernel) rfl rfl rfl rfl rfl rfl rfl rfl (fun _ e => ct_X8_of e) (fun v3 => ?_)
  refine X_aload_n rfl rfl rfl ?_
  refine X_getA rfl rfl (fun v7 => ?_)
  refine X_bipush (v := 8) rfl rfl (by decide) ?_
  refine X_ald rfl rfl (fun v12 => ?_)
  refine X_iadd rfl rfl ?_
  refine X_iconst (v := 1) rfl rfl (by decide) ?_
  refine X_isub rfl rfl ?_
  refine X_aload_n rfl rfl rfl ?_
  refine X_getA rfl rfl (fun v17 => ?_)
  refine X_bipush (v := 8) rfl rfl (by decide) ?_
  refine X_ald rfl rfl (fun v22 => ?_)
  refine X_if (fun _ => X_none) (fun hz => ?_)
  refine X_idiv (v := ((v3 + v12) - 1) / v22) rfl rfl rfl hz ?_
  exact X_iret rfl rfl rfl rfl rfl rfl rfl
def f_X8_lettersOf (h : gH) (a0 : Nat) (p1 : Int32) (p2 : Int32) : Option (Int32) :=
  (g_gA h a0 8 8).bind fun v1 =>
  (g_ald h v1 8).bind fun v6 =>
  bif g_is h a0 8 then
  (f_X8_of h a0 p1 2).bind fun v10 =>
  (g_gA h a0 8 8).bind fun v15 =>
  (g_ald h v15 8).bind fun v20 =>
  some (f_X8_min v6 (v10 - (p2 * v20)))
  else none
set_option maxRecDepth 100000 in
theorem ct_X8_lettersOf {l : Launch} {G : gG} {h : gH} {a0 : Nat} {p1 : Int32} {p2 : Int32} {r : Int32} (e : f_X8_lettersOf h a0 p1 p2 = some r) : Ct l G M_X8_lettersOf [.ref a0, .int p1, .int p2] h (some (.int r)) h := by
  refine Ct_of (L := [some (.ref a0), some (.int p1), some (.int p2)]) ok_X8_lettersOf (by decide +kernel) rfl rfl rfl (ρ := (g_rI h)) (F := f_X8_lettersOf h a0 p1 p2) ?_ e rfl
  unfold f_X8_lettersOf
  refine X_aload_n rfl rfl rfl ?_
  refine X_getA rfl rfl (fun v1 => ?_)
  refine X_bipush (v := 8) rfl rfl (by decide) ?_
  refine X_ald rfl rfl (fun v6 => ?_)
  refine X_aload_n rfl rfl rfl ?_
  refine X_iload_n rfl rfl rfl ?_
  refine X_iconst (v := 2) rfl rfl (by decide) ?_
  refine X_callV_IR (M' := M_X8_of) (nA := 2) (As := [.int p1, .int 2]) (st := [.int v6]) (b := a0) (ci := 8) rfl rfl (by decide +kernel) rfl rfl rfl rfl rfl rfl rfl rfl (fun _ e => ct_X8_of e) (fun v10 => ?_)
  refine X_iload_n rfl rfl rfl ?_
  refine X_aload_n rfl rfl rfl ?_
  refine X_getA rfl rfl (fun v15 => ?_)
  refine X_bipush (v := 8) rfl rfl (by decide) ?_
  refine X_ald rfl rfl (fun v20 => ?_)
  refine X_imul rfl rfl ?_
  refine X_isub rfl rfl ?_
  refine X_callS_IP (v := f_X8_min v6 (v10 - (p2 * v20))) (M' := M_X8_min) (nA := 2) (As := [.int v6, .int (v10 - (p2 * v20))]) (st := []) rfl rfl (by decide +kernel) rfl rfl rfl rfl rfl rfl rfl ct_X8_min ?_
  exact X_iret rfl rfl rfl rfl rfl rfl rfl
def f_X8_wrongs_b72 (h : gH) (K5 : Nat → Int32 → Int32 → Int32 → Int32 → Option (Int32)) (l0 : Nat) (l1 : Int32) (l2 : Int32) (l4 : Int32) (s0 : Int32) (s1 : Int32) : Option (Int32) :=
  K5 l0 l1 l2 (s1 + s0) (l4 + 1)
def f_X8_wrongs_b71 (h : gH) (K5 : Nat → Int32 → Int32 → Int32 → Int32 → Option (Int32)) (l0 : Nat) (l1 : Int32) (l2 : Int32) (l4 : Int32) (s0 : Int32) : Option (Int32) :=
  f_X8_wrongs_b72 h K5 l0 l1 l2 l4 0 s0
def f_X8_wrongs_b35 (h : gH) (K5 : Nat → Int32 → Int32 → Int32 → Int32 → Option (Int32)) (l0 : Nat) (l1 : Int32) (l2 : Int32) (l3 : Int32) (l4 : Int32) (s0 : Int32) : Option (Int32) :=
  (if s0 = l2 then
    bif g_is h l0 8 then
    (f_X8_of h l0 l1 (30 + l4)).bind fun v51 =>
    bif g_is h l0 8 then
    (f_X8_of h l0 l1 (6 + l4)).bind fun v61 =>
    (if v51 = v61 then
      f_X8_wrongs_b71 h K5 l0 l1 l2 l4 l3
    else
      f_X8_wrongs_b72 h K5 l0 l1 l2 l4 1 l3)
    else none
    else none
  else
    f_X8_wrongs_b71 h K5 l0 l1 l2 l4 l3)
def f_X8_wrongs_b5 (h : gH) : Nat → Nat → Int32 → Int32 → Int32 → Int32 → Option (Int32)
  | 0, _, _, _, _, _ => none
  | n + 1, l0, l1, l2, l3, l4 =>
    bif g_is h l0 8 then
    (f_X8_of h l0 l1 2).bind fun v10 =>
    (if l4 < v10 then
      bif g_is h l0 8 then
      (f_X8_of h l0 l1 (30 + l4)).bind fun v23 =>
      (if v23 = (-1) then
        f_X8_wrongs_b35 h (f_X8_wrongs_b5 h n) l0 l1 l2 l3 l4 1
      else
        f_X8_wrongs_b35 h (f_X8_wrongs_b5 h n) l0 l1 l2 l3 l4 0)
      else none
    else
      some l3)
    else none
def f_X8_wrongs (h : gH) (a0 : Nat) (p1 : Int32) (p2 : Int32) : Option (Int32) :=
  f_X8_wrongs_b5 h g_N a0 p1 p2 0 0
set_option maxRecDepth 100000 in
theorem b_X8_wrongs_b72 {l : Launch} {G : gG} {h : gH} {K5 : Nat → Int32 → Int32 → Int32 → Int32 → Option (Int32)} (hK5 : ∀ (l0 : Nat) (l1 : Int32) (l2 : Int32) (l3 : Int32) (l4 : Int32), GX l G M_X8_wrongs (g_phi G (g_rI h) (m_R M_X8_wrongs).cells (m_R M_X8_wrongs).slots) 0 0 5 [some (.ref l0), some (.int l1), some (.int l2), some (.int l3), some (.int l4), none] [] h (K5 l0 l1 l2 l3 l4)) (l0 : Nat) (l1 : Int32) (l2 : Int32) (l4 : Int32) (s0 : Int32) (s1 : Int32) : GX l G M_X8_wrongs (g_phi G (g_rI h) (m_R M_X8_wrongs).cells (m_R M_X8_wrongs).slots) 0 0 72 [some (.ref l0), some (.int l1), some (.int l2), none, some (.int l4), none] [.int s0, .int s1] h (f_X8_wrongs_b72 h K5 l0 l1 l2 l4 s0 s1) := by
  unfold f_X8_wrongs_b72
  refine X_iadd rfl rfl ?_
  refine X_istore_n rfl rfl rfl rfl ?_
  refine X_iinc (v := l4 + 1) rfl rfl rfl (congrArg (fun z => l4 + z) (by decide : Int32.ofInt 1 = 1)) rfl ?_
  refine X_goto rfl rfl ?_
  exact X_sub (g_sub_s (g_sub_s (g_sub_s (g_sub_s (g_sub_s (g_sub_n g_sub_0)))))) (hK5 _ _ _ _ _)
set_option maxRecDepth 100000 in
theorem b_X8_wrongs_b71 {l : Launch} {G : gG} {h : gH} {K5 : Nat → Int32 → Int32 → Int32 → Int32 → Option (Int32)} (hK5 : ∀ (l0 : Nat) (l1 : Int32) (l2 : Int32) (l3 : Int32) (l4 : Int32), GX l G M_X8_wrongs (g_phi G (g_rI h) (m_R M_X8_wrongs).cells (m_R M_X8_wrongs).slots) 0 0 5 [some (.ref l0), some (.int l1), some (.int l2), some (.int l3), some (.int l4), none] [] h (K5 l0 l1 l2 l3 l4)) (l0 : Nat) (l1 : Int32) (l2 : Int32) (l4 : Int32) (s0 : Int32) : GX l G M_X8_wrongs (g_phi G (g_rI h) (m_R M_X8_wrongs).cells (m_R M_X8_wrongs).slots) 0 0 71 [some (.ref l0), some (.int l1), some (.int l2), none, some (.int l4), none] [.int s0] h (f_X8_wrongs_b71 h K5 l0 l1 l2 l4 s0) := by
  unfold f_X8_wrongs_b71
  refine X_iconst (v := 0) rfl rfl (by decide) ?_
  exact X_sub (g_sub_s (g_sub_s (g_sub_s (g_sub_n (g_sub_s (g_sub_n g_sub_0)))))) (b_X8_wrongs_b72 hK5 _ _ _ _ _ _)
set_option maxRecDepth 100000 in
theorem b_X8_wrongs_b35 {l : Launch} {G : gG} {h : gH} {K5 : Nat → Int32 → Int32 → Int32 → Int32 → Option (Int32)} (hK5 : ∀ (l0 : Nat) (l1 : Int32) (l2 : Int32) (l3 : Int32) (l4 : Int32), GX l G M_X8_wrongs (g_phi G (g_rI h) (m_R M_X8_wrongs).cells (m_R M_X8_wrongs).slots) 0 0 5 [some (.ref l0), some (.int l1), some (.int l2), some (.int l3), some (.int l4), none] [] h (K5 l0 l1 l2 l3 l4)) (l0 : Nat) (l1 : Int32) (l2 : Int32) (l3 : Int32) (l4 : Int32) (s0 : Int32) : GX l G M_X8_wrongs (g_phi G (g_rI h) (m_R M_X8_wrongs).cells (m_R M_X8_wrongs).slots) 0 0 35 [some (.ref l0), some (.int l1), some (.int l2), some (.int l3), some (.int l4), none] [.int s0] h (f_X8_wrongs_b35 h K5 l0 l1 l2 l3 l4 s0) := by
  unfold f_X8_wrongs_b35
  refine X_istore rfl rfl rfl rfl ?_
  refine X_iload_n rfl rfl rfl ?_
  refine X_iload rfl rfl rfl ?_
  refine X_iload_n rfl rfl rfl ?_
  refine X_bicmp_ne rfl rfl (fun _ => ?_) (fun _ => ?_)
  · refine X_aload_n rfl rfl rfl ?_
    refine X_iload_n rfl rfl rfl ?_
    refine X_bipush (v := 30) rfl rfl (by decide) ?_
    refine X_iload rfl rfl rfl ?_
    refine X_iadd rfl rfl ?_
    refine X_callV_IR (M' := M_X8_of) (nA := 2) (As := [.int l1, .int (30 + l4)]) (st := [.int l3]) (b := l0) (ci := 8) rfl rfl (by decide +kernel) rfl rfl rfl rfl rfl rfl rfl rfl (fun _ e => ct_X8_of e) (fun v51 => ?_)
    refine X_aload_n rfl rfl rfl ?_
    refine X_iload_n rfl rfl rfl ?_
    refine X_bipush (v := 6) rfl rfl (by decide) ?_
    refine X_iload rfl rfl rfl ?_
    refine X_iadd rfl rfl ?_
    refine X_callV_IR (M' := M_X8_of) (nA := 2) (As := [.int l1, .int (6 + l4)]) (st := [.int v51, .int l3]) (b := l0) (ci := 8) rfl rfl (by decide +kernel) rfl rfl rfl rfl rfl rfl rfl rfl (fun _ e => ct_X8_of e) (fun v61 => ?_)
    refine X_bicmp_eq rfl rfl (fun _ => ?_) (fun _ => ?_)
    · exact X_sub (g_sub_s (g_sub_s (g_sub_s (g_sub_n (g_sub_s (g_sub_n g_sub_0)))))) (b_X8_wrongs_b71 hK5 _ _ _ _ _)
    · refine X_iconst (v := 1) rfl rfl (by decide) ?_
      refine X_goto rfl rfl ?_
      exact X_sub (g_sub_s (g_sub_s (g_sub_s (g_sub_n (g_sub_s (g_sub_n g_sub_0)))))) (b_X8_wrongs_b72 hK5 _ _ _ _ _ _)
  · exact X_sub (g_sub_s (g_sub_s (g_sub_s (g_sub_n (g_sub_s (g_sub_n g_sub_0)))))) (b_X8_wrongs_b71 hK5 _ _ _ _ _)
set_option maxRecDepth 100000 in
theorem b_X8_wrongs_b5 {l : Launch} {G : gG} {h : gH} : ∀ (n : Nat) (l0 : Nat) (l1 : Int32) (l2 : Int32) (l3 : Int32) (l4 : Int32), GX l G M_X8_wrongs (g_phi G (g_rI h) (m_R M_X8_wrongs).cells (m_R M_X8_wrongs).slots) 0 0 5 [some (.ref l0), some (.int l1), some (.int l2), some (.int l3), some (.int l4), none] [] h (f_X8_wrongs_b5 h n l0 l1 l2 l3 l4) := by
  intro n
  induction n with
  | zero => intros; exact X_none
  | succ n ih =>
    intro l0 l1 l2 l3 l4
    rw [f_X8_wrongs_b5]
    refine X_iload rfl rfl rfl ?_
    refine X_aload_n rfl rfl rfl ?_
    refine X_iload_n rfl rfl rfl ?_
    refine X_iconst (v := 2) rfl rfl (by decide) ?_
    refine X_callV_IR (M' := M_X8_of) (nA := 2) (As := [.int l1, .int 2]) (st := [.int l4]) (b := l0) (ci := 8) rfl rfl (by decide +kernel) rfl rfl rfl rfl rfl rfl rfl rfl (fun _ e => ct_X8_of e) (fun v10 => ?_)
    refine X_bicmp_ge rfl rfl (fun _ => ?_) (fun _ => ?_)
    · refine X_aload_n rfl rfl rfl ?_
      refine X_iload_n rfl rfl rfl ?_
      refine X_bipush (v := 30) rfl rfl (by decide) ?_
      refine X_iload rfl rfl rfl ?_
      refine X_iadd rfl rfl ?_
      refine X_callV_IR (M' := M_X8_of) (nA := 2) (As := [.int l1, .int (30 + l4)]) (st := []) (b := l0) (ci := 8) rfl rfl (by decide +kernel) rfl rfl rfl rfl rfl rfl rfl rfl (fun _ e => ct_X8_of e) (fun v23 => ?_)
      refine X_iconst (v := -1) rfl rfl (by decide) ?_
      refine X_bicmp_ne rfl rfl (fun _ => ?_) (fun _ => ?_)
      · refine X_iconst (v := 1) rfl rfl (by decide) ?_
        refine X_goto rfl rfl ?_
        exact X_sub (g_sub_s (g_sub_s (g_sub_s (g_sub_s (g_sub_s (g_sub_n g_sub_0)))))) (b_X8_wrongs_b35 ih _ _ _ _ _ _)
      · refine X_iconst (v := 0) rfl rfl (by decide) ?_
        exact X_sub (g_sub_s (g_sub_s (g_sub_s (g_sub_s (g_sub_s (g_sub_n g_sub_0)))))) (b_X8_wrongs_b35 ih _ _ _ _ _ _)
    · refine X_iload_n rfl rfl rfl ?_
      exact X_iret rfl rfl rfl rfl rfl rfl rfl
set_option maxRecDepth 100000 in
theorem ct_X8_wrongs {l : Launch} {G : gG} {h : gH} {a0 : Nat} {p1 : Int32} {p2 : Int32} {r : Int32} (e : f_X8_wrongs h a0 p1 p2 = some r) : Ct l G M_X8_wrongs [.ref a0, .int p1, .int p2] h (some (.int r)) h := by
  refine Ct_of (L := [some (.ref a0), some (.int p1), some (.int p2), none, none, none]) ok_X8_wrongs (by decide +kernel) rfl rfl rfl (ρ := (g_rI h)) (F := f_X8_wrongs h a0 p1 p2) ?_ e rfl
  unfold f_X8_wrongs
  refine X_iconst (v := 0) rfl rfl (by decide) ?_
  refine X_istore_n rfl rfl rfl rfl ?_
  refine X_iconst (v := 0) rfl rfl (by decide) ?_
  refine X_istore rfl rfl rfl rfl ?_
  exact X_sub (g_sub_s (g_sub_s (g_sub_s (g_sub_s (g_sub_s (g_sub_n g_sub_0)))))) (b_X8_wrongs_b5  _ _ _ _ _ _)
def f_X8_agrees (h : gH) (a0 : Nat) (p1 : Int32) : Option (Int32) :=
  bif g_is h a0 8 then
  (f_X8_of h a0 p1 3).bind fun v3 =>
  (if v3 = 2 then
    bif g_is h a0 8 then
    (f_X8_wrongs h a0 p1 1).bind fun v13 =>
    bif g_is h a0 8 then
    (f_X8_wrongs h a0 p1 0).bind fun v19 =>
    (if (v13 + v19) = 0 then
      some 1
    else
      some 0)
    else none
    else none
  else
    some 0)
  else none
set_option maxRecDepth 100000 in
theorem ct_X8_agrees {l : Launch} {G : gG} {h : gH} {a0 : Nat} {p1 : Int32} {r : Int32} (e : f_X8_agrees h a0 p1 = some r) : Ct l G M_X8_agrees [.ref a0, .int p1] h (some (.int r)) h := by
  refine Ct_of (L := [some (.ref a0), some (.int p1)]) ok_X8_agrees (by decide +kernel) rfl rfl rfl (ρ := (g_rI h)) (F := f_X8_agrees h a0 p1) ?_ e rfl
  unfold f_X8_agrees
  refine X_aload_n rfl rfl rfl ?_
  refine X_iload_n rfl rfl rfl ?_
  refine X_iconst (v := 3) rfl rfl (by decide) ?_
  refine X_callV_IR (M' := M_X8_of) (nA := 2) (As := [.int p1, .int 3]) (st := []) (b := a0) (ci := 8) rfl rfl (by decide +kernel) rfl rfl rfl rfl rfl rfl rfl rfl (fun _ e => ct_X8_of e) (fun v3 => ?_)
  refine X_iconst (v := 2) rfl rfl (by decide) ?_
  refine X_bicmp_ne rfl rfl (fun _ => ?_) (fun _ => ?_)
  · refine X_aload_n rfl rfl rfl ?_
    refine X_iload_n rfl rfl rfl ?_
    refine X_iconst (v := 1) rfl rfl (by decide) ?_
    refine X_callV_IR (M' := M_X8_wrongs) (nA := 2) (As := [.int p1, .int 1]) (st := []) (b := a0) (ci := 8) rfl rfl (by decide +kernel) rfl rfl rfl rfl rfl rfl rfl rfl (fun _ e => ct_X8_wrongs e) (fun v13 => ?_)
    refine X_aload_n rfl rfl rfl ?_
    refine X_iload_n rfl rfl rfl ?_
    refine X_iconst (v := 0) rfl rfl (by decide) ?_
    refine X_callV_IR (M' := M_X8_wrongs) (nA := 2) (As := [.int p1, .int 0]) (st := [.int v13]) (b := a0) (ci := 8) rfl rfl (by decide +kernel) rfl rfl rfl rfl rfl rfl rfl rfl (fun _ e => ct_X8_wrongs e) (fun v19 => ?_)
    refine X_iadd rfl rfl ?_
    refine X_bif_ne rfl rfl (fun _ => ?_) (fun _ => ?_)
    · refine X_iconst (v := 1) rfl rfl (by decide) ?_
      refine X_goto rfl rfl ?_
      exact X_iret rfl rfl rfl rfl rfl rfl rfl
    · refine X_iconst (v := 0) rfl rfl (by decide) ?_
      exact X_iret rfl rfl rfl rfl rfl rfl rfl
  · refine X_iconst (v := 0) rfl rfl (by decide) ?_
    exact X_iret rfl rfl rfl rfl rfl rfl rfl
def f_X8_nextMessage_b58 (h : gH) (K5 : Nat → Int32 → Int32 → Int32 → Option (Int32)) (K12 : Nat → Int32 → Int32 → Int32 → Int32 → Option (Int32)) (l0 : Nat) (l1 : Int32) (l2 : Int32) (l3 : Int32) (l4 : Int32) : Option (Int32) :=
  K12 l0 l1 l2 l3 (l4 + 1)
def f_X8_nextMessage_b12 (h : gH) (K5 : Nat → Int32 → Int32 → Int32 → Option (Int32)) : Nat → Nat → Int32 → Int32 → Int32 → Int32 → Option (Int32)
  | 0, _, _, _, _, _ => none
  | n + 1, l0, l1, l2, l3, l4 =>
    (g_gA h l0 8 8).bind fun v15 =>
    (g_ald h v15 1).bind fun v19 =>
    (if l4 < v19 then
      bif g_is h l0 8 then
      (f_X8_of h l0 l4 3).bind fun v27 =>
      (if v27 = 0 then
        bif g_is h l0 8 then
        (f_X8_of h l0 l4 1).bind fun v37 =>
        (if v37 = l3 then
          (if l2 = l1 then
            some l4
          else
            f_X8_nextMessage_b58 h K5 (f_X8_nextMessage_b12 h K5 n) l0 l1 (l2 + 1) l3 l4)
        else
          f_X8_nextMessage_b58 h K5 (f_X8_nextMessage_b12 h K5 n) l0 l1 l2 l3 l4)
        else none
      else
        f_X8_nextMessage_b58 h K5 (f_X8_nextMessage_b12 h K5 n) l0 l1 l2 l3 l4)
      else none
    else
      K5 l0 l1 l2 (l3 + (-1)))
def f_X8_nextMessage_b5 (h : gH) : Nat → Nat → Int32 → Int32 → Int32 → Option (Int32)
  | 0, _, _, _, _ => none
  | n + 1, l0, l1, l2, l3 =>
    (if 0 ≤ l3 then
      f_X8_nextMessage_b12 h (f_X8_nextMessage_b5 h n) g_N l0 l1 l2 l3 0
    else
      some (-1))
def f_X8_nextMessage (h : gH) (a0 : Nat) (p1 : Int32) : Option (Int32) :=
  f_X8_nextMessage_b5 h g_N a0 p1 0 9
set_option maxRecDepth 100000 in
theorem b_X8_nextMessage_b58 {l : Launch} {G : gG} {h : gH} {K5 : Nat → Int32 → Int32 → Int32 → Option (Int32)} {K12 : Nat → Int32 → Int32 → Int32 → Int32 → Option (Int32)} (hK5 : ∀ (l0 : Nat) (l1 : Int32) (l2 : Int32) (l3 : Int32), GX l G M_X8_nextMessage (g_phi G (g_rI h) (m_R M_X8_nextMessage).cells (m_R M_X8_nextMessage).slots) 0 0 5 [some (.ref l0), some (.int l1), some (.int l2), some (.int l3), none] [] h (K5 l0 l1 l2 l3)) (hK12 : ∀ (l0 : Nat) (l1 : Int32) (l2 : Int32) (l3 : Int32) (l4 : Int32), GX l G M_X8_nextMessage (g_phi G (g_rI h) (m_R M_X8_nextMessage).cells (m_R M_X8_nextMessage).slots) 0 0 12 [some (.ref l0), some (.int l1), some (.int l2), some (.int l3), some (.int l4)] [] h (K12 l0 l1 l2 l3 l4)) (l0 : Nat) (l1 : Int32) (l2 : Int32) (l3 : Int32) (l4 : Int32) : GX l G M_X8_nextMessage (g_phi G (g_rI h) (m_R M_X8_nextMessage).cells (m_R M_X8_nextMessage).slots) 0 0 58 [some (.ref l0), some (.int l1), some (.int l2), some (.int l3), some (.int l4)] [] h (f_X8_nextMessage_b58 h K5 K12 l0 l1 l2 l3 l4) := by
  unfold f_X8_nextMessage_b58
  refine X_iinc (v := l4 + 1) rfl rfl rfl (congrArg (fun z => l4 + z) (by decide : Int32.ofInt 1 = 1)) rfl ?_
  refine X_goto rfl rfl ?_
  exact X_sub (g_sub_s (g_sub_s (g_sub_s (g_sub_s (g_sub_s g_sub_0))))) (hK12 _ _ _ _ _)
set_option maxRecDepth 100000 in
theorem b_X8_nextMessage_b12 {l : Launch} {G : gG} {h : gH} {K5 : Nat → Int32 → Int32 → Int32 → Option (Int32)} (hK5 : ∀ (l0 : Nat) (l1 : Int32) (l2 : Int32) (l3 : Int32), GX l G M_X8_nextMessage (g_phi G (g_rI h) (m_R M_X8_nextMessage).cells (m_R M_X8_nextMessage).slots) 0 0 5 [some (.ref l0), some (.int l1), some (.int l2), some (.int l3), none] [] h (K5 l0 l1 l2 l3)) : ∀ (n : Nat) (l0 : Nat) (l1 : Int32) (l2 : Int32) (l3 : Int32) (l4 : Int32), GX l G M_X8_nextMessage (g_phi G (g_rI h) (m_R M_X8_nextMessage).cells (m_R M_X8_nextMessage).slots) 0 0 12 [some (.ref l0), some (.int l1), some (.int l2), some (.int l3), some (.int l4)] [] h (f_X8_nextMessage_b12 h K5 n l0 l1 l2 l3 l4) := by
  intro n
  induction n with
  | zero => intros; exact X_none
  | succ n ih =>
    intro l0 l1 l2 l3 l4
    rw [f_X8_nextMessage_b12]
    refine X_iload rfl rfl rfl ?_
    refine X_aload_n rfl rfl rfl ?_
    refine X_getA rfl rfl (fun v15 => ?_)
    refine X_iconst (v := 1) rfl rfl (by decide) ?_
    refine X_ald rfl rfl (fun v19 => ?_)
    refine X_bicmp_ge rfl rfl (fun _ => ?_) (fun _ => ?_)
    · refine X_aload_n rfl rfl rfl ?_
      refine X_iload rfl rfl rfl ?_
      refine X_iconst (v := 3) rfl rfl (by decide) ?_
      refine X_callV_IR (M' := M_X8_of) (nA := 2) (As := [.int l4, .int 3]) (st := []) (b := l0) (ci := 8) rfl rfl (by decide +kernel) rfl rfl rfl rfl rfl rfl rfl rfl (fun _ e => ct_X8_of e) (fun v27 => ?_)
      refine X_bif_ne rfl rfl (fun _ => ?_) (fun _ => ?_)
      · refine X_aload_n rfl rfl rfl ?_
        refine X_iload rfl rfl rfl ?_
        refine X_iconst (v := 1) rfl rfl (by decide) ?_
        refine X_callV_IR (M' := M_X8_of) (nA := 2) (As := [.int l4, .int 1]) (st := []) (b := l0) (ci := 8) rfl rfl (by decide +kernel) rfl rfl rfl rfl rfl rfl rfl rfl (fun _ e => ct_X8_of e) (fun v37 => ?_)
        refine X_iload_n rfl rfl rfl ?_
        refine X_bicmp_eq rfl rfl (fun _ => ?_) (fun _ => ?_)
        · refine X_iload_n rfl rfl rfl ?_
          refine X_iload_n rfl rfl rfl ?_
          refine X_bicmp_ne rfl rfl (fun _ => ?_) (fun _ => ?_)
          · refine X_iload rfl rfl rfl ?_
            exact X_iret rfl rfl rfl rfl rfl rfl rfl
          · refine X_iinc (v := l2 + 1) rfl rfl rfl (congrArg (fun z => l2 + z) (by decide : Int32.ofInt 1 = 1)) rfl ?_
            exact X_sub (g_sub_s (g_sub_s (g_sub_s (g_sub_s (g_sub_s g_sub_0))))) (b_X8_nextMessage_b58 hK5 ih _ _ _ _ _)
        · refine X_goto rfl rfl ?_
          exact X_sub (g_sub_s (g_sub_s (g_sub_s (g_sub_s (g_sub_s g_sub_0))))) (b_X8_nextMessage_b58 hK5 ih _ _ _ _ _)
      · exact X_sub (g_sub_s (g_sub_s (g_sub_s (g_sub_s (g_sub_s g_sub_0))))) (b_X8_nextMessage_b58 hK5 ih _ _ _ _ _)
    · refine X_iinc (v := l3 + (-1)) rfl rfl rfl (congrArg (fun z => l3 + z) (by decide : Int32.ofInt (-1) = (-1))) rfl ?_
      refine X_goto rfl rfl ?_
      exact X_sub (g_sub_s (g_sub_s (g_sub_s (g_sub_s (g_sub_n g_sub_0))))) (hK5 _ _ _ _)
set_option maxRecDepth 100000 in
theorem b_X8_nextMessage_b5 {l : Launch} {G : gG} {h : gH} : ∀ (n : Nat) (l0 : Nat) (l1 : Int32) (l2 : Int32) (l3 : Int32), GX l G M_X8_nextMessage (g_phi G (g_rI h) (m_R M_X8_nextMessage).cells (m_R M_X8_nextMessage).slots) 0 0 5 [some (.ref l0), some (.int l1), some (.int l2), some (.int l3), none] [] h (f_X8_nextMessage_b5 h n l0 l1 l2 l3) := by
  intro n
  induction n with
  | zero => intros; exact X_none
  | succ n ih =>
    intro l0 l1 l2 l3
    rw [f_X8_nextMessage_b5]
    refine X_iload_n rfl rfl rfl ?_
    refine X_bif_lt rfl rfl (fun _ => ?_) (fun _ => ?_)
    · refine X_iconst (v := 0) rfl rfl (by decide) ?_
      refine X_istore rfl rfl rfl rfl ?_
      exact X_sub (g_sub_s (g_sub_s (g_sub_s (g_sub_s (g_sub_s g_sub_0))))) (b_X8_nextMessage_b12 ih _ _ _ _ _ _)
    · refine X_iconst (v := -1) rfl rfl (by decide) ?_
      exact X_iret rfl rfl rfl rfl rfl rfl rfl
set_option maxRecDepth 100000 in
theorem ct_X8_nextMessage {l : Launch} {G : gG} {h : gH} {a0 : Nat} {p1 : Int32} {r : Int32} (e : f_X8_nextMessage h a0 p1 = some r) : Ct l G M_X8_nextMessage [.ref a0, .int p1] h (some (.int r)) h := by
  refine Ct_of (L := [some (.ref a0), some (.int p1), none, none, none]) ok_X8_nextMessage (by decide +kernel) rfl rfl rfl (ρ := (g_rI h)) (F := f_X8_nextMessage h a0 p1) ?_ e rfl
  unfold f_X8_nextMessage
  refine X_iconst (v := 0) rfl rfl (by decide) ?_
  refine X_istore_n rfl rfl rfl rfl ?_
  refine X_bipush (v := 9) rfl rfl (by decide) ?_
  refine X_istore_n rfl rfl rfl rfl ?_
  exact X_sub (g_sub_s (g_sub_s (g_sub_s (g_sub_s (g_sub_n g_sub_0))))) (b_X8_nextMessage_b5  _ _ _ _ _)
def f_X8_openFrame_b2 (h : gH) : Nat → Nat → Int32 → Int32 → Option (Int32)
  | 0, _, _, _ => none
  | n + 1, l0, l1, l2 =>
    bif g_is h l0 8 then
    (f_X8_frames h l0 l1).bind fun v5 =>
    (if l2 < v5 then
      bif g_is h l0 8 then
      (f_X8_of h l0 l1 (54 + l2)).bind fun v17 =>
      (if v17 = 0 then
        some l2
      else
        f_X8_openFrame_b2 h n l0 l1 (l2 + 1))
      else none
    else
      some (-1))
    else none
def f_X8_openFrame (h : gH) (a0 : Nat) (p1 : Int32) : Option (Int32) :=
  f_X8_openFrame_b2 h g_N a0 p1 0
set_option maxRecDepth 100000 in
theorem b_X8_openFrame_b2 {l : Launch} {G : gG} {h : gH} : ∀ (n : Nat) (l0 : Nat) (l1 : Int32) (l2 : Int32), GX l G M_X8_openFrame (g_phi G (g_rI h) (m_R M_X8_openFrame).cells (m_R M_X8_openFrame).slots) 0 0 2 [some (.ref l0), some (.int l1), some (.int l2)] [] h (f_X8_openFrame_b2 h n l0 l1 l2) := by
  intro n
  induction n with
  | zero => intros; exact X_none
  | succ n ih =>
    intro l0 l1 l2
    rw [f_X8_openFrame_b2]
    refine X_iload_n rfl rfl rfl ?_
    refine X_aload_n rfl rfl rfl ?_
    refine X_iload_n rfl rfl rfl ?_
    refine X_callV_IR (M' := M_X8_frames) (nA := 1) (As := [.int l1]) (st := [.int l2]) (b := l0) (ci := 8) rfl rfl (by decide +kernel) rfl rfl rfl rfl rfl rfl rfl rfl (fun _ e => ct_X8_frames e) (fun v5 => ?_)
    refine X_bicmp_ge rfl rfl (fun _ => ?_) (fun _ => ?_)
    · refine X_aload_n rfl rfl rfl ?_
      refine X_iload_n rfl rfl rfl ?_
      refine X_bipush (v := 54) rfl rfl (by decide) ?_
      refine X_iload_n rfl rfl rfl ?_
      refine X_iadd rfl rfl ?_
      refine X_callV_IR (M' := M_X8_of) (nA := 2) (As := [.int l1, .int (54 + l2)]) (st := []) (b := l0) (ci := 8) rfl rfl (by decide +kernel) rfl rfl rfl rfl rfl rfl rfl rfl (fun _ e => ct_X8_of e) (fun v17 => ?_)
      refine X_bif_ne rfl rfl (fun _ => ?_) (fun _ => ?_)
      · refine X_iload_n rfl rfl rfl ?_
        exact X_iret rfl rfl rfl rfl rfl rfl rfl
      · refine X_iinc (v := l2 + 1) rfl rfl rfl (congrArg (fun z => l2 + z) (by decide : Int32.ofInt 1 = 1)) rfl ?_
        refine X_goto rfl rfl ?_
        exact X_sub (g_sub_s (g_sub_s (g_sub_s g_sub_0))) (ih _ _ _)
    · refine X_iconst (v := -1) rfl rfl (by decide) ?_
      exact X_iret rfl rfl rfl rfl rfl rfl rfl
set_option maxRecDepth 100000 in
theorem ct_X8_openFrame {l : Launch} {G : gG} {h : gH} {a0 : Nat} {p1 : Int32} {r : Int32} (e : f_X8_openFrame h a0 p1 = some r) : Ct l G M_X8_openFrame [.ref a0, .int p1] h (some (.int r)) h := by
  refine Ct_of (L := [some (.ref a0), some (.int p1), none]) ok_X8_openFrame (by decide +kernel) rfl rfl rfl (ρ := (g_rI h)) (F := f_X8_openFrame h a0 p1) ?_ e rfl
  unfold f_X8_openFrame
  refine X_iconst (v := 0) rfl rfl (by decide) ?_
  refine X_istore_n rfl rfl rfl rfl ?_
  exact X_sub (g_sub_s (g_sub_s (g_sub_s g_sub_0))) (b_X8_openFrame_b2  _ _ _ _)
def f_X8_symbol_b18 (h : gH) (l2 : Int32) (l3 : Int32) : Option (Int32 × gH) :=
  some (g_rem (l2 + l3) 26, h)
def f_X8_symbol (h : gH) (a0 : Nat) (p1 : Int32) (p2 : Int32) : Option (Int32 × gH) :=
  bif g_is h a0 8 then
  (f_X8_air h a0 p1).bind fun y2 =>
  (if y2.1 = 2 then
    bif g_is y2.2 a0 8 then
    (f_X8_setChannel y2.2 a0 p1 5 1).bind fun h15 =>
    f_X8_symbol_b18 h15 p2 y2.1
    else none
  else
    f_X8_symbol_b18 y2.2 p2 y2.1)
  else none
set_option maxRecDepth 100000 in
theorem b_X8_symbol_b18 {l : Launch} {G : gG} (h : gH) (l2 : Int32) (l3 : Int32) : GX l G M_X8_symbol (g_phi G g_wI (m_R M_X8_symbol).cells (m_R M_X8_symbol).slots) 0 0 18 [none, none, some (.int l2), some (.int l3)] [] h (f_X8_symbol_b18 h l2 l3) := by
  unfold f_X8_symbol_b18
  refine X_iload_n rfl rfl rfl ?_
  refine X_iload_n rfl rfl rfl ?_
  refine X_iadd rfl rfl ?_
  refine X_bipush (v := 26) rfl rfl (by decide) ?_
  refine X_irem (v := g_rem (l2 + l3) 26) rfl rfl rfl (by decide) ?_
  exact X_iret rfl rfl rfl rfl rfl rfl rfl
set_option maxRecDepth 100000 in
theorem ct_X8_symbol {l : Launch} {G : gG} {h : gH} {a0 : Nat} {p1 : Int32} {p2 : Int32} {r : Int32} {h1 : gH} (e : f_X8_symbol h a0 p1 p2 = some (r, h1)) : Ct l G M_X8_symbol [.ref a0, .int p1, .int p2] h (some (.int r)) h1 := by
  refine Ct_of (L := [some (.ref a0), some (.int p1), some (.int p2), none]) ok_X8_symbol (by decide +kernel) rfl rfl rfl (ρ := g_wI) (F := f_X8_symbol h a0 p1 p2) ?_ e rfl
  unfold f_X8_symbol
  refine X_aload_n rfl rfl rfl ?_
  refine X_iload_n rfl rfl rfl ?_
  refine X_callV_IW (M' := M_X8_air) (nA := 1) (As := [.int p1]) (st := []) (b := a0) (ci := 8) rfl rfl (by decide +kernel) rfl rfl rfl rfl rfl rfl rfl rfl (fun _ _ e => ct_X8_air e) (fun y2 => ?_)
  refine X_istore_n rfl rfl rfl rfl ?_
  refine X_iload_n rfl rfl rfl ?_
  refine X_iconst (v := 2) rfl rfl (by decide) ?_
  refine X_bicmp_ne rfl rfl (fun _ => ?_) (fun _ => ?_)
  · refine X_aload_n rfl rfl rfl ?_
    refine X_iload_n rfl rfl rfl ?_
    refine X_iconst (v := 5) rfl rfl (by decide) ?_
    refine X_iconst (v := 1) rfl rfl (by decide) ?_
    refine X_callV_UW (M' := M_X8_setChannel) (nA := 3) (As := [.int p1, .int 5, .int 1]) (st := []) (b := a0) (ci := 8) rfl rfl (by decide +kernel) rfl rfl rfl rfl rfl rfl rfl rfl (fun _ e => ct_X8_setChannel e) (fun h15 => ?_)
    exact X_sub (g_sub_n (g_sub_n (g_sub_s (g_sub_s g_sub_0)))) (b_X8_symbol_b18  _ _ _)
  · exact X_sub (g_sub_n (g_sub_n (g_sub_s (g_sub_s g_sub_0)))) (b_X8_symbol_b18  _ _ _)
def f_X8_judge_b187 (K126 : gH → Nat → Int32 → Int32 → Int32 → Int32 → Int32 → Option gH) (h : gH) (l0 : Nat) (l1 : Int32) (l2 : Int32) (l5 : Int32) (l9 : Int32) (l10 : Int32) : Option gH :=
  K126 h l0 l1 l2 l5 l9 (l10 + 1)
def f_X8_judge_b126 : Nat → gH → Nat → Int32 → Int32 → Int32 → Int32 → Int32 → Option gH
  | 0, _, _, _, _, _, _, _ => none
  | n + 1, h, l0, l1, l2, l5, l9, l10 =>
    (if l10 < l5 then
      bif g_is h l0 8 then
      (f_X8_of h l0 l1 2).bind fun v141 =>
      (if (l9 + l10) < v141 then
        bif g_is h l0 8 then
        (f_X8_of h l0 l1 ((30 + l9) + l10)).bind fun v157 =>
        (if v157 = (-1) then
          bif g_is h l0 8 then
          (f_X8_ofChannel h l0 l2 (8 + l10)).bind fun v181 =>
          bif g_is h l0 8 then
          (f_X8_set h l0 l1 ((30 + l9) + l10) v181).bind fun h184 =>
          f_X8_judge_b187 (f_X8_judge_b126  n) h184 l0 l1 l2 l5 l9 l10
          else none
          else none
        else
          f_X8_judge_b187 (f_X8_judge_b126  n) h l0 l1 l2 l5 l9 l10)
        else none
      else
        some h)
      else none
    else
      some h)
def f_X8_judge_b92 (h : gH) (l0 : Nat) (l1 : Int32) (l2 : Int32) (l5 : Int32) (l6 : Int32) (l8 : Int32) (s0 : Int32) (s1 : Int32) (s2 : Int32) (s3 : Nat) : Option gH :=
  bif g_is h s3 8 then
  (f_X8_setChannel h s3 s2 s1 s0).bind fun h92 =>
  (if l8 = 0 then
    some h92
  else
    bif g_is h92 l0 8 then
    (f_X8_frames h92 l0 l1).bind fun v104 =>
    (if v104 ≤ l6 then
      some h92
    else
      (g_gA h92 l0 8 8).bind fun v114 =>
      (g_ald h92 v114 8).bind fun v119 =>
      f_X8_judge_b126 g_N h92 l0 l1 l2 l5 (l6 * v119) 0)
    else none)
  else none
def f_X8_judge_b76 (h : gH) (l0 : Nat) (l1 : Int32) (l2 : Int32) (l5 : Int32) (l6 : Int32) (s0 : Int32) : Option gH :=
  (if s0 = 0 then
    f_X8_judge_b92 h l0 l1 l2 l5 l6 s0 0 7 l2 l0
  else
    f_X8_judge_b92 h l0 l1 l2 l5 l6 s0 1 7 l2 l0)
def f_X8_judge_b75 (h : gH) (l0 : Nat) (l1 : Int32) (l2 : Int32) (l5 : Int32) (l6 : Int32) : Option gH :=
  f_X8_judge_b76 h l0 l1 l2 l5 l6 0
def f_X8_judge_b24 : Nat → gH → Nat → Int32 → Int32 → Int32 → Int32 → Int32 → Int32 → Int32 → Option gH
  | 0, _, _, _, _, _, _, _, _, _ => none
  | n + 1, h, l0, l1, l2, l4, l5, l6, l7, l8 =>
    (if l8 < l5 then
      bif g_is h l0 8 then
      (f_X8_ofChannel h l0 l2 (8 + l8)).bind fun v40 =>
      f_X8_judge_b24  n h l0 l1 l2 l4 l5 l6 (l7 + v40) (l8 + 1)
      else none
    else
      bif g_is h l0 8 then
      (f_X8_ofChannel h l0 l2 5).bind fun v55 =>
      (if v55 = 0 then
        (if (g_rem l7 26) = l4 then
          f_X8_judge_b76 h l0 l1 l2 l5 l6 1
        else
          f_X8_judge_b75 h l0 l1 l2 l5 l6)
      else
        f_X8_judge_b75 h l0 l1 l2 l5 l6)
      else none)
def f_X8_judge (h : gH) (a0 : Nat) (p1 : Int32) (p2 : Int32) (p3 : Int32) (p4 : Int32) : Option gH :=
  bif g_is h a0 8 then
  (f_X8_lettersOf h a0 p1 p3).bind fun v3 =>
  bif g_is h a0 8 then
  (f_X8_ofChannel h a0 p2 6).bind fun v12 =>
  f_X8_judge_b24 g_N h a0 p1 p2 p4 v3 v12 v12 0
  else none
  else none
set_option maxRecDepth 100000 in
theorem b_X8_judge_b187 {l : Launch} {G : gG} {K126 : gH → Nat → Int32 → Int32 → Int32 → Int32 → Int32 → Option gH} (hK126 : ∀ (h : gH) (l0 : Nat) (l1 : Int32) (l2 : Int32) (l5 : Int32) (l9 : Int32) (l10 : Int32), GX l G M_X8_judge (g_phi G g_wU (m_R M_X8_judge).cells (m_R M_X8_judge).slots) 0 0 126 [some (.ref l0), some (.int l1), some (.int l2), none, none, some (.int l5), none, none, none, some (.int l9), some (.int l10)] [] h (K126 h l0 l1 l2 l5 l9 l10)) (h : gH) (l0 : Nat) (l1 : Int32) (l2 : Int32) (l5 : Int32) (l9 : Int32) (l10 : Int32) : GX l G M_X8_judge (g_phi G g_wU (m_R M_X8_judge).cells (m_R M_X8_judge).slots) 0 0 187 [some (.ref l0), some (.int l1), some (.int l2), none, none, some (.int l5), none, none, none, some (.int l9), some (.int l10)] [] h (f_X8_judge_b187 K126 h l0 l1 l2 l5 l9 l10) := by
  unfold f_X8_judge_b187
  refine X_iinc (v := l10 + 1) rfl rfl rfl (congrArg (fun z => l10 + z) (by decide : Int32.ofInt 1 = 1)) rfl ?_
  refine X_goto rfl rfl ?_
  exact X_sub (g_sub_s (g_sub_s (g_sub_s (g_sub_n (g_sub_n (g_sub_s (g_sub_n (g_sub_n (g_sub_n (g_sub_s (g_sub_s g_sub_0))))))))))) (hK126 _ _ _ _ _ _ _)
set_option maxRecDepth 100000 in
theorem b_X8_judge_b126 {l : Launch} {G : gG} : ∀ (n : Nat) (h : gH) (l0 : Nat) (l1 : Int32) (l2 : Int32) (l5 : Int32) (l9 : Int32) (l10 : Int32), GX l G M_X8_judge (g_phi G g_wU (m_R M_X8_judge).cells (m_R M_X8_judge).slots) 0 0 126 [some (.ref l0), some (.int l1), some (.int l2), none, none, some (.int l5), none, none, none, some (.int l9), some (.int l10)] [] h (f_X8_judge_b126 n h l0 l1 l2 l5 l9 l10) := by
  intro n
  induction n with
  | zero => intros; exact X_none
  | succ n ih =>
    intro h l0 l1 l2 l5 l9 l10
    rw [f_X8_judge_b126]
    refine X_iload rfl rfl rfl ?_
    refine X_iload rfl rfl rfl ?_
    refine X_bicmp_ge rfl rfl (fun _ => ?_) (fun _ => ?_)
    · refine X_iload rfl rfl rfl ?_
      refine X_iload rfl rfl rfl ?_
      refine X_iadd rfl rfl ?_
      refine X_aload_n rfl rfl rfl ?_
      refine X_iload_n rfl rfl rfl ?_
      refine X_iconst (v := 2) rfl rfl (by decide) ?_
      refine X_callV_IR (M' := M_X8_of) (nA := 2) (As := [.int l1, .int 2]) (st := [.int (l9 + l10)]) (b := l0) (ci := 8) rfl rfl (by decide +kernel) rfl rfl rfl rfl rfl rfl rfl rfl (fun _ e => ct_X8_of e) (fun v141 => ?_)
      refine X_bicmp_ge rfl rfl (fun _ => ?_) (fun _ => ?_)
      · refine X_aload_n rfl rfl rfl ?_
        refine X_iload_n rfl rfl rfl ?_
        refine X_bipush (v := 30) rfl rfl (by decide) ?_
        refine X_iload rfl rfl rfl ?_
        refine X_iadd rfl rfl ?_
        refine X_iload rfl rfl rfl ?_
        refine X_iadd rfl rfl ?_
        refine X_callV_IR (M' := M_X8_of) (nA := 2) (As := [.int l1, .int ((30 + l9) + l10)]) (st := []) (b := l0) (ci := 8) rfl rfl (by decide +kernel) rfl rfl rfl rfl rfl rfl rfl rfl (fun _ e => ct_X8_of e) (fun v157 => ?_)
        refine X_iconst (v := -1) rfl rfl (by decide) ?_
        refine X_bicmp_ne rfl rfl (fun _ => ?_) (fun _ => ?_)
        · refine X_aload_n rfl rfl rfl ?_
          refine X_iload_n rfl rfl rfl ?_
          refine X_bipush (v := 30) rfl rfl (by decide) ?_
          refine X_iload rfl rfl rfl ?_
          refine X_iadd rfl rfl ?_
          refine X_iload rfl rfl rfl ?_
          refine X_iadd rfl rfl ?_
          refine X_aload_n rfl rfl rfl ?_
          refine X_iload_n rfl rfl rfl ?_
          refine X_bipush (v := 8) rfl rfl (by decide) ?_
          refine X_iload rfl rfl rfl ?_
          refine X_iadd rfl rfl ?_
          refine X_callV_IR (M' := M_X8_ofChannel) (nA := 2) (As := [.int l2, .int (8 + l10)]) (st := [.int ((30 + l9) + l10), .int l1, .ref l0]) (b := l0) (ci := 8) rfl rfl (by decide +kernel) rfl rfl rfl rfl rfl rfl rfl rfl (fun _ e => ct_X8_ofChannel e) (fun v181 => ?_)
          refine X_callV_UW (M' := M_X8_set) (nA := 3) (As := [.int l1, .int ((30 + l9) + l10), .int v181]) (st := []) (b := l0) (ci := 8) rfl rfl (by decide +kernel) rfl rfl rfl rfl rfl rfl rfl rfl (fun _ e => ct_X8_set e) (fun h184 => ?_)
          exact X_sub (g_sub_s (g_sub_s (g_sub_s (g_sub_n (g_sub_n (g_sub_s (g_sub_n (g_sub_n (g_sub_n (g_sub_s (g_sub_s g_sub_0))))))))))) (b_X8_judge_b187 ih _ _ _ _ _ _ _)
        · exact X_sub (g_sub_s (g_sub_s (g_sub_s (g_sub_n (g_sub_n (g_sub_s (g_sub_n (g_sub_n (g_sub_n (g_sub_s (g_sub_s g_sub_0))))))))))) (b_X8_judge_b187 ih _ _ _ _ _ _ _)
      · exact X_vret rfl rfl rfl rfl rfl rfl
    · exact X_vret rfl rfl rfl rfl rfl rfl
set_option maxRecDepth 100000 in
theorem b_X8_judge_b92 {l : Launch} {G : gG} (h : gH) (l0 : Nat) (l1 : Int32) (l2 : Int32) (l5 : Int32) (l6 : Int32) (l8 : Int32) (s0 : Int32) (s1 : Int32) (s2 : Int32) (s3 : Nat) : GX l G M_X8_judge (g_phi G g_wU (m_R M_X8_judge).cells (m_R M_X8_judge).slots) 0 0 92 [some (.ref l0), some (.int l1), some (.int l2), none, none, some (.int l5), some (.int l6), none, some (.int l8), none, none] [.int s0, .int s1, .int s2, .ref s3] h (f_X8_judge_b92 h l0 l1 l2 l5 l6 l8 s0 s1 s2 s3) := by
  unfold f_X8_judge_b92
  refine X_callV_UW (M' := M_X8_setChannel) (nA := 3) (As := [.int s2, .int s1, .int s0]) (st := []) (b := s3) (ci := 8) rfl rfl (by decide +kernel) rfl rfl rfl rfl rfl rfl rfl rfl (fun _ e => ct_X8_setChannel e) (fun h92 => ?_)
  refine X_iload rfl rfl rfl ?_
  refine X_bif_eq rfl rfl (fun _ => ?_) (fun _ => ?_)
  · exact X_vret rfl rfl rfl rfl rfl rfl
  · refine X_iload rfl rfl rfl ?_
    refine X_aload_n rfl rfl rfl ?_
    refine X_iload_n rfl rfl rfl ?_
    refine X_callV_IR (M' := M_X8_frames) (nA := 1) (As := [.int l1]) (st := [.int l6]) (b := l0) (ci := 8) rfl rfl (by decide +kernel) rfl rfl rfl rfl rfl rfl rfl rfl (fun _ e => ct_X8_frames e) (fun v104 => ?_)
    refine X_bicmp_lt rfl rfl (fun _ => ?_) (fun _ => ?_)
    · exact X_vret rfl rfl rfl rfl rfl rfl
    · refine X_iload rfl rfl rfl ?_
      refine X_aload_n rfl rfl rfl ?_
      refine X_getA rfl rfl (fun v114 => ?_)
      refine X_bipush (v := 8) rfl rfl (by decide) ?_
      refine X_ald rfl rfl (fun v119 => ?_)
      refine X_imul rfl rfl ?_
      refine X_istore rfl rfl rfl rfl ?_
      refine X_iconst (v := 0) rfl rfl (by decide) ?_
      refine X_istore rfl rfl rfl rfl ?_
      exact X_sub (g_sub_s (g_sub_s (g_sub_s (g_sub_n (g_sub_n (g_sub_s (g_sub_n (g_sub_n (g_sub_n (g_sub_s (g_sub_s g_sub_0))))))))))) (b_X8_judge_b126  _ _ _ _ _ _ _ _)
set_option maxRecDepth 100000 in
theorem b_X8_judge_b76 {l : Launch} {G : gG} (h : gH) (l0 : Nat) (l1 : Int32) (l2 : Int32) (l5 : Int32) (l6 : Int32) (s0 : Int32) : GX l G M_X8_judge (g_phi G g_wU (m_R M_X8_judge).cells (m_R M_X8_judge).slots) 0 0 76 [some (.ref l0), some (.int l1), some (.int l2), none, none, some (.int l5), some (.int l6), none, none, none, none] [.int s0] h (f_X8_judge_b76 h l0 l1 l2 l5 l6 s0) := by
  unfold f_X8_judge_b76
  refine X_istore rfl rfl rfl rfl ?_
  refine X_aload_n rfl rfl rfl ?_
  refine X_iload_n rfl rfl rfl ?_
  refine X_bipush (v := 7) rfl rfl (by decide) ?_
  refine X_iload rfl rfl rfl ?_
  refine X_bif_eq rfl rfl (fun _ => ?_) (fun _ => ?_)
  · refine X_iconst (v := 0) rfl rfl (by decide) ?_
    exact X_sub (g_sub_s (g_sub_s (g_sub_s (g_sub_n (g_sub_n (g_sub_s (g_sub_s (g_sub_n (g_sub_s (g_sub_n (g_sub_n g_sub_0))))))))))) (b_X8_judge_b92  _ _ _ _ _ _ _ _ _ _ _)
  · refine X_iconst (v := 1) rfl rfl (by decide) ?_
    refine X_goto rfl rfl ?_
    exact X_sub (g_sub_s (g_sub_s (g_sub_s (g_sub_n (g_sub_n (g_sub_s (g_sub_s (g_sub_n (g_sub_s (g_sub_n (g_sub_n g_sub_0))))))))))) (b_X8_judge_b92  _ _ _ _ _ _ _ _ _ _ _)
set_option maxRecDepth 100000 in
theorem b_X8_judge_b75 {l : Launch} {G : gG} (h : gH) (l0 : Nat) (l1 : Int32) (l2 : Int32) (l5 : Int32) (l6 : Int32) : GX l G M_X8_judge (g_phi G g_wU (m_R M_X8_judge).cells (m_R M_X8_judge).slots) 0 0 75 [some (.ref l0), some (.int l1), some (.int l2), none, none, some (.int l5), some (.int l6), none, none, none, none] [] h (f_X8_judge_b75 h l0 l1 l2 l5 l6) := by
  unfold f_X8_judge_b75
  refine X_iconst (v := 0) rfl rfl (by decide) ?_
  exact X_sub (g_sub_s (g_sub_s (g_sub_s (g_sub_n (g_sub_n (g_sub_s (g_sub_s (g_sub_n (g_sub_n (g_sub_n (g_sub_n g_sub_0))))))))))) (b_X8_judge_b76  _ _ _ _ _ _ _)
set_option maxRecDepth 100000 in
theorem b_X8_judge_b24 {l : Launch} {G : gG} : ∀ (n : Nat) (h : gH) (l0 : Nat) (l1 : Int32) (l2 : Int32) (l4 : Int32) (l5 : Int32) (l6 : Int32) (l7 : Int32) (l8 : Int32), GX l G M_X8_judge (g_phi G g_wU (m_R M_X8_judge).cells (m_R M_X8_judge).slots) 0 0 24 [some (.ref l0), some (.int l1), some (.int l2), none, some (.int l4), some (.int l5), some (.int l6), some (.int l7), some (.int l8), none, none] [] h (f_X8_judge_b24 n h l0 l1 l2 l4 l5 l6 l7 l8) := by
  intro n
  induction n with
  | zero => intros; exact X_none
  | succ n ih =>
    intro h l0 l1 l2 l4 l5 l6 l7 l8
    rw [f_X8_judge_b24]
    refine X_iload rfl rfl rfl ?_
    refine X_iload rfl rfl rfl ?_
    refine X_bicmp_ge rfl rfl (fun _ => ?_) (fun _ => ?_)
    · refine X_iload rfl rfl rfl ?_
      refine X_aload_n rfl rfl rfl ?_
      refine X_iload_n rfl rfl rfl ?_
      refine X_bipush (v := 8) rfl rfl (by decide) ?_
      refine X_iload rfl rfl rfl ?_
      refine X_iadd rfl rfl ?_
      refine X_callV_IR (M' := M_X8_ofChannel) (nA := 2) (As := [.int l2, .int (8 + l8)]) (st := [.int l7]) (b := l0) (ci := 8) rfl rfl (by decide +kernel) rfl rfl rfl rfl rfl rfl rfl rfl (fun _ e => ct_X8_ofChannel e) (fun v40 => ?_)
      refine X_iadd rfl rfl ?_
      refine X_istore rfl rfl rfl rfl ?_
      refine X_iinc (v := l8 + 1) rfl rfl rfl (congrArg (fun z => l8 + z) (by decide : Int32.ofInt 1 = 1)) rfl ?_
      refine X_goto rfl rfl ?_
      exact X_sub (g_sub_s (g_sub_s (g_sub_s (g_sub_n (g_sub_s (g_sub_s (g_sub_s (g_sub_s (g_sub_s (g_sub_n (g_sub_n g_sub_0))))))))))) (ih _ _ _ _ _ _ _ _ _)
    · refine X_aload_n rfl rfl rfl ?_
      refine X_iload_n rfl rfl rfl ?_
      refine X_iconst (v := 5) rfl rfl (by decide) ?_
      refine X_callV_IR (M' := M_X8_ofChannel) (nA := 2) (As := [.int l2, .int 5]) (st := []) (b := l0) (ci := 8) rfl rfl (by decide +kernel) rfl rfl rfl rfl rfl rfl rfl rfl (fun _ e => ct_X8_ofChannel e) (fun v55 => ?_)
      refine X_bif_ne rfl rfl (fun _ => ?_) (fun _ => ?_)
      · refine X_iload rfl rfl rfl ?_
        refine X_bipush (v := 26) rfl rfl (by decide) ?_
        refine X_irem (v := g_rem l7 26) rfl rfl rfl (by decide) ?_
        refine X_iload rfl rfl rfl ?_
        refine X_bicmp_ne rfl rfl (fun _ => ?_) (fun _ => ?_)
        · refine X_iconst (v := 1) rfl rfl (by decide) ?_
          refine X_goto rfl rfl ?_
          exact X_sub (g_sub_s (g_sub_s (g_sub_s (g_sub_n (g_sub_n (g_sub_s (g_sub_s (g_sub_n (g_sub_n (g_sub_n (g_sub_n g_sub_0))))))))))) (b_X8_judge_b76  _ _ _ _ _ _ _)
        · exact X_sub (g_sub_s (g_sub_s (g_sub_s (g_sub_n (g_sub_n (g_sub_s (g_sub_s (g_sub_n (g_sub_n (g_sub_n (g_sub_n g_sub_0))))))))))) (b_X8_judge_b75  _ _ _ _ _ _)
      · exact X_sub (g_sub_s (g_sub_s (g_sub_s (g_sub_n (g_sub_n (g_sub_s (g_sub_s (g_sub_n (g_sub_n (g_sub_n (g_sub_n g_sub_0))))))))))) (b_X8_judge_b75  _ _ _ _ _ _)
set_option maxRecDepth 100000 in
theorem ct_X8_judge {l : Launch} {G : gG} {h : gH} {a0 : Nat} {p1 : Int32} {p2 : Int32} {p3 : Int32} {p4 : Int32} {h1 : gH} (e : f_X8_judge h a0 p1 p2 p3 p4 = some h1) : Ct l G M_X8_judge [.ref a0, .int p1, .int p2, .int p3, .int p4] h none h1 := by
  refine Ct_of (L := [some (.ref a0), some (.int p1), some (.int p2), some (.int p3), some (.int p4), none, none, none, none, none, none]) ok_X8_judge (by decide +kernel) rfl rfl rfl (ρ := g_wU) (F := f_X8_judge h a0 p1 p2 p3 p4) ?_ e rfl
  unfold f_X8_judge
  refine X_aload_n rfl rfl rfl ?_
  refine X_iload_n rfl rfl rfl ?_
  refine X_iload_n rfl rfl rfl ?_
  refine X_callV_IR (M' := M_X8_lettersOf) (nA := 2) (As := [.int p1, .int p3]) (st := []) (b := a0) (ci := 8) rfl rfl (by decide +kernel) rfl rfl rfl rfl rfl rfl rfl rfl (fun _ e => ct_X8_lettersOf e) (fun v3 => ?_)
  refine X_istore rfl rfl rfl rfl ?_
  refine X_aload_n rfl rfl rfl ?_
  refine X_iload_n rfl rfl rfl ?_
  refine X_bipush (v := 6) rfl rfl (by decide) ?_
  refine X_callV_IR (M' := M_X8_ofChannel) (nA := 2) (As := [.int p2, .int 6]) (st := []) (b := a0) (ci := 8) rfl rfl (by decide +kernel) rfl rfl rfl rfl rfl rfl rfl rfl (fun _ e => ct_X8_ofChannel e) (fun v12 => ?_)
  refine X_istore rfl rfl rfl rfl ?_
  refine X_iload rfl rfl rfl ?_
  refine X_istore rfl rfl rfl rfl ?_
  refine X_iconst (v := 0) rfl rfl (by decide) ?_
  refine X_istore rfl rfl rfl rfl ?_
  exact X_sub (g_sub_s (g_sub_s (g_sub_s (g_sub_n (g_sub_s (g_sub_s (g_sub_s (g_sub_s (g_sub_s (g_sub_n (g_sub_n g_sub_0))))))))))) (b_X8_judge_b24  _ _ _ _ _ _ _ _ _ _)
def f_X8_answer_b158 (h : gH) (s0 : Int32) (s1 : Int32) (s2 : Int32) (s3 : Nat) : Option gH :=
  (g_ast h s3 s2 (s1 + s0)).bind fun h159 =>
  some h159
def f_X8_answer_b137 (h : gH) (l0 : Nat) (l6 : Int32) (s0 : Int32) (s1 : Int32) (s2 : Int32) (s3 : Nat) : Option gH :=
  bif g_is h s3 8 then
  (f_X8_set h s3 s2 s1 s0).bind fun h137 =>
  (g_gA h137 l0 8 8).bind fun v141 =>
  (g_ald h137 v141 6).bind fun v147 =>
  (if l6 = 0 then
    f_X8_answer_b158 h137 0 v147 6 v141
  else
    f_X8_answer_b158 h137 1 v147 6 v141)
  else none
def f_X8_answer_b119 (h : gH) (l0 : Nat) (l1 : Int32) (l3 : Int32) (s0 : Int32) : Option gH :=
  (if s0 = 0 then
    f_X8_answer_b137 h l0 s0 0 (54 + l3) l1 l0
  else
    f_X8_answer_b137 h l0 s0 3 (54 + l3) l1 l0)
def f_X8_answer_b52 (h : gH) (l0 : Nat) (l1 : Int32) (l2 : Int32) (l3 : Int32) (s0 : Int32) : Option gH :=
  bif g_is h l0 8 then
  (f_X8_rest h l0 l2).bind fun h56 =>
  (if s0 = 0 then
    bif g_is h56 l0 8 then
    (f_X8_of h56 l0 l1 (78 + l3)).bind fun v87 =>
    bif g_is h56 l0 8 then
    (f_X8_set h56 l0 l1 (78 + l3) (v87 + 1)).bind fun h92 =>
    bif g_is h92 l0 8 then
    (f_X8_of h92 l0 l1 (78 + l3)).bind fun v101 =>
    (g_gA h92 l0 8 8).bind fun v105 =>
    (g_ald h92 v105 9).bind fun v110 =>
    (if v101 = v110 then
      f_X8_answer_b119 h92 l0 l1 l3 1
    else
      f_X8_answer_b119 h92 l0 l1 l3 0)
    else none
    else none
    else none
  else
    bif g_is h56 l0 8 then
    (f_X8_set h56 l0 l1 (54 + l3) 2).bind fun h71 =>
    some h71
    else none)
  else none
def f_X8_answer_b51 (h : gH) (l0 : Nat) (l1 : Int32) (l2 : Int32) (l3 : Int32) : Option gH :=
  f_X8_answer_b52 h l0 l1 l2 l3 0
def f_X8_answer (h : gH) (a0 : Nat) (p1 : Int32) (p2 : Int32) (p3 : Int32) : Option gH :=
  bif g_is h a0 8 then
  (f_X8_air h a0 p2).bind fun y2 =>
  (if y2.1 = 0 then
    bif g_is y2.2 a0 8 then
    (f_X8_ofChannel y2.2 a0 p2 7).bind fun v16 =>
    (if v16 = 1 then
      f_X8_answer_b52 y2.2 a0 p1 p2 p3 1
    else
      f_X8_answer_b52 y2.2 a0 p1 p2 p3 0)
    else none
  else
    (if y2.1 = 1 then
      bif g_is y2.2 a0 8 then
      (f_X8_ofChannel y2.2 a0 p2 7).bind fun v41 =>
      (if v41 = 0 then
        f_X8_answer_b52 y2.2 a0 p1 p2 p3 1
      else
        f_X8_answer_b51 y2.2 a0 p1 p2 p3)
      else none
    else
      f_X8_answer_b51 y2.2 a0 p1 p2 p3))
  else none
set_option maxRecDepth 100000 in
theorem b_X8_answer_b158 {l : Launch} {G : gG} (h : gH) (s0 : Int32) (s1 : Int32) (s2 : Int32) (s3 : Nat) : GX l G M_X8_answer (g_phi G g_wU (m_R M_X8_answer).cells (m_R M_X8_answer).slots) 0 0 158 [none, none, none, none, none, none, none] [.int s0, .int s1, .int s2, .ref s3] h (f_X8_answer_b158 h s0 s1 s2 s3) := by
  unfold f_X8_answer_b158
  refine X_iadd rfl rfl ?_
  refine X_ast rfl rfl (fun h159 => ?_)
  exact X_vret rfl rfl rfl rfl rfl rfl
set_option maxRecDepth 100000 in
theorem b_X8_answer_b137 {l : Launch} {G : gG} (h : gH) (l0 : Nat) (l6 : Int32) (s0 : Int32) (s1 : Int32) (s2 : Int32) (s3 : Nat) : GX l G M_X8_answer (g_phi G g_wU (m_R M_X8_answer).cells (m_R M_X8_answer).slots) 0 0 137 [some (.ref l0), none, none, none, none, none, some (.int l6)] [.int s0, .int s1, .int s2, .ref s3] h (f_X8_answer_b137 h l0 l6 s0 s1 s2 s3) := by
  unfold f_X8_answer_b137
  refine X_callV_UW (M' := M_X8_set) (nA := 3) (As := [.int s2, .int s1, .int s0]) (st := []) (b := s3) (ci := 8) rfl rfl (by decide +kernel) rfl rfl rfl rfl rfl rfl rfl rfl (fun _ e => ct_X8_set e) (fun h137 => ?_)
  refine X_aload_n rfl rfl rfl ?_
  refine X_getA rfl rfl (fun v141 => ?_)
  refine X_bipush (v := 6) rfl rfl (by decide) ?_
  refine X_dup2 rfl rfl rfl rfl ?_
  refine X_ald rfl rfl (fun v147 => ?_)
  refine X_iload rfl rfl rfl ?_
  refine X_bif_eq rfl rfl (fun _ => ?_) (fun _ => ?_)
  · refine X_iconst (v := 0) rfl rfl (by decide) ?_
    exact X_sub (g_sub_n (g_sub_n (g_sub_n (g_sub_n (g_sub_n (g_sub_n (g_sub_n g_sub_0))))))) (b_X8_answer_b158  _ _ _ _ _)
  · refine X_iconst (v := 1) rfl rfl (by decide) ?_
    refine X_goto rfl rfl ?_
    exact X_sub (g_sub_n (g_sub_n (g_sub_n (g_sub_n (g_sub_n (g_sub_n (g_sub_n g_sub_0))))))) (b_X8_answer_b158  _ _ _ _ _)
set_option maxRecDepth 100000 in
theorem b_X8_answer_b119 {l : Launch} {G : gG} (h : gH) (l0 : Nat) (l1 : Int32) (l3 : Int32) (s0 : Int32) : GX l G M_X8_answer (g_phi G g_wU (m_R M_X8_answer).cells (m_R M_X8_answer).slots) 0 0 119 [some (.ref l0), some (.int l1), none, some (.int l3), none, none, none] [.int s0] h (f_X8_answer_b119 h l0 l1 l3 s0) := by
  unfold f_X8_answer_b119
  refine X_istore rfl rfl rfl rfl ?_
  refine X_aload_n rfl rfl rfl ?_
  refine X_iload_n rfl rfl rfl ?_
  refine X_bipush (v := 54) rfl rfl (by decide) ?_
  refine X_iload_n rfl rfl rfl ?_
  refine X_iadd rfl rfl ?_
  refine X_iload rfl rfl rfl ?_
  refine X_bif_eq rfl rfl (fun _ => ?_) (fun _ => ?_)
  · refine X_iconst (v := 0) rfl rfl (by decide) ?_
    exact X_sub (g_sub_s (g_sub_n (g_sub_n (g_sub_n (g_sub_n (g_sub_n (g_sub_s g_sub_0))))))) (b_X8_answer_b137  _ _ _ _ _ _ _)
  · refine X_iconst (v := 3) rfl rfl (by decide) ?_
    refine X_goto rfl rfl ?_
    exact X_sub (g_sub_s (g_sub_n (g_sub_n (g_sub_n (g_sub_n (g_sub_n (g_sub_s g_sub_0))))))) (b_X8_answer_b137  _ _ _ _ _ _ _)
set_option maxRecDepth 100000 in
theorem b_X8_answer_b52 {l : Launch} {G : gG} (h : gH) (l0 : Nat) (l1 : Int32) (l2 : Int32) (l3 : Int32) (s0 : Int32) : GX l G M_X8_answer (g_phi G g_wU (m_R M_X8_answer).cells (m_R M_X8_answer).slots) 0 0 52 [some (.ref l0), some (.int l1), some (.int l2), some (.int l3), none, none, none] [.int s0] h (f_X8_answer_b52 h l0 l1 l2 l3 s0) := by
  unfold f_X8_answer_b52
  refine X_istore rfl rfl rfl rfl ?_
  refine X_aload_n rfl rfl rfl ?_
  refine X_iload_n rfl rfl rfl ?_
  refine X_callV_UW (M' := M_X8_rest) (nA := 1) (As := [.int l2]) (st := []) (b := l0) (ci := 8) rfl rfl (by decide +kernel) rfl rfl rfl rfl rfl rfl rfl rfl (fun _ e => ct_X8_rest e) (fun h56 => ?_)
  refine X_iload rfl rfl rfl ?_
  refine X_bif_eq rfl rfl (fun _ => ?_) (fun _ => ?_)
  · refine X_aload_n rfl rfl rfl ?_
    refine X_iload_n rfl rfl rfl ?_
    refine X_bipush (v := 78) rfl rfl (by decide) ?_
    refine X_iload_n rfl rfl rfl ?_
    refine X_iadd rfl rfl ?_
    refine X_aload_n rfl rfl rfl ?_
    refine X_iload_n rfl rfl rfl ?_
    refine X_bipush (v := 78) rfl rfl (by decide) ?_
    refine X_iload_n rfl rfl rfl ?_
    refine X_iadd rfl rfl ?_
    refine X_callV_IR (M' := M_X8_of) (nA := 2) (As := [.int l1, .int (78 + l3)]) (st := [.int (78 + l3), .int l1, .ref l0]) (b := l0) (ci := 8) rfl rfl (by decide +kernel) rfl rfl rfl rfl rfl rfl rfl rfl (fun _ e => ct_X8_of e) (fun v87 => ?_)
    refine X_iconst (v := 1) rfl rfl (by decide) ?_
    refine X_iadd rfl rfl ?_
    refine X_callV_UW (M' := M_X8_set) (nA := 3) (As := [.int l1, .int (78 + l3), .int (v87 + 1)]) (st := []) (b := l0) (ci := 8) rfl rfl (by decide +kernel) rfl rfl rfl rfl rfl rfl rfl rfl (fun _ e => ct_X8_set e) (fun h92 => ?_)
    refine X_aload_n rfl rfl rfl ?_
    refine X_iload_n rfl rfl rfl ?_
    refine X_bipush (v := 78) rfl rfl (by decide) ?_
    refine X_iload_n rfl rfl rfl ?_
    refine X_iadd rfl rfl ?_
    refine X_callV_IR (M' := M_X8_of) (nA := 2) (As := [.int l1, .int (78 + l3)]) (st := []) (b := l0) (ci := 8) rfl rfl (by decide +kernel) rfl rfl rfl rfl rfl rfl rfl rfl (fun _ e => ct_X8_of e) (fun v101 => ?_)
    refine X_aload_n rfl rfl rfl ?_
    refine X_getA rfl rfl (fun v105 => ?_)
    refine X_bipush (v := 9) rfl rfl (by decide) ?_
    refine X_ald rfl rfl (fun v110 => ?_)
    refine X_bicmp_ne rfl rfl (fun _ => ?_) (fun _ => ?_)
    · refine X_iconst (v := 1) rfl rfl (by decide) ?_
      refine X_goto rfl rfl ?_
      exact X_sub (g_sub_s (g_sub_s (g_sub_n (g_sub_s (g_sub_n (g_sub_n (g_sub_n g_sub_0))))))) (b_X8_answer_b119  _ _ _ _ _)
    · refine X_iconst (v := 0) rfl rfl (by decide) ?_
      exact X_sub (g_sub_s (g_sub_s (g_sub_n (g_sub_s (g_sub_n (g_sub_n (g_sub_n g_sub_0))))))) (b_X8_answer_b119  _ _ _ _ _)
  · refine X_aload_n rfl rfl rfl ?_
    refine X_iload_n rfl rfl rfl ?_
    refine X_bipush (v := 54) rfl rfl (by decide) ?_
    refine X_iload_n rfl rfl rfl ?_
    refine X_iadd rfl rfl ?_
    refine X_iconst (v := 2) rfl rfl (by decide) ?_
    refine X_callV_UW (M' := M_X8_set) (nA := 3) (As := [.int l1, .int (54 + l3), .int 2]) (st := []) (b := l0) (ci := 8) rfl rfl (by decide +kernel) rfl rfl rfl rfl rfl rfl rfl rfl (fun _ e => ct_X8_set e) (fun h71 => ?_)
    exact X_vret rfl rfl rfl rfl rfl rfl
set_option maxRecDepth 100000 in
theorem b_X8_answer_b51 {l : Launch} {G : gG} (h : gH) (l0 : Nat) (l1 : Int32) (l2 : Int32) (l3 : Int32) : GX l G M_X8_answer (g_phi G g_wU (m_R M_X8_answer).cells (m_R M_X8_answer).slots) 0 0 51 [some (.ref l0), some (.int l1), some (.int l2), some (.int l3), none, none, none] [] h (f_X8_answer_b51 h l0 l1 l2 l3) := by
  unfold f_X8_answer_b51
  refine X_iconst (v := 0) rfl rfl (by decide) ?_
  exact X_sub (g_sub_s (g_sub_s (g_sub_s (g_sub_s (g_sub_n (g_sub_n (g_sub_n g_sub_0))))))) (b_X8_answer_b52  _ _ _ _ _ _)
set_option maxRecDepth 100000 in
theorem ct_X8_answer {l : Launch} {G : gG} {h : gH} {a0 : Nat} {p1 : Int32} {p2 : Int32} {p3 : Int32} {h1 : gH} (e : f_X8_answer h a0 p1 p2 p3 = some h1) : Ct l G M_X8_answer [.ref a0, .int p1, .int p2, .int p3] h none h1 := by
  refine Ct_of (L := [some (.ref a0), some (.int p1), some (.int p2), some (.int p3), none, none, none]) ok_X8_answer (by decide +kernel) rfl rfl rfl (ρ := g_wU) (F := f_X8_answer h a0 p1 p2 p3) ?_ e rfl
  unfold f_X8_answer
  refine X_aload_n rfl rfl rfl ?_
  refine X_iload_n rfl rfl rfl ?_
  refine X_callV_IW (M' := M_X8_air) (nA := 1) (As := [.int p2]) (st := []) (b := a0) (ci := 8) rfl rfl (by decide +kernel) rfl rfl rfl rfl rfl rfl rfl rfl (fun _ _ e => ct_X8_air e) (fun y2 => ?_)
  refine X_istore rfl rfl rfl rfl ?_
  refine X_iload rfl rfl rfl ?_
  refine X_bif_ne rfl rfl (fun _ => ?_) (fun _ => ?_)
  · refine X_aload_n rfl rfl rfl ?_
    refine X_iload_n rfl rfl rfl ?_
    refine X_bipush (v := 7) rfl rfl (by decide) ?_
    refine X_callV_IR (M' := M_X8_ofChannel) (nA := 2) (As := [.int p2, .int 7]) (st := []) (b := a0) (ci := 8) rfl rfl (by decide +kernel) rfl rfl rfl rfl rfl rfl rfl rfl (fun _ e => ct_X8_ofChannel e) (fun v16 => ?_)
    refine X_iconst (v := 1) rfl rfl (by decide) ?_
    refine X_bicmp_ne rfl rfl (fun _ => ?_) (fun _ => ?_)
    · refine X_iconst (v := 1) rfl rfl (by decide) ?_
      refine X_goto rfl rfl ?_
      exact X_sub (g_sub_s (g_sub_s (g_sub_s (g_sub_s (g_sub_n (g_sub_n (g_sub_n g_sub_0))))))) (b_X8_answer_b52  _ _ _ _ _ _)
    · refine X_iconst (v := 0) rfl rfl (by decide) ?_
      refine X_goto rfl rfl ?_
      exact X_sub (g_sub_s (g_sub_s (g_sub_s (g_sub_s (g_sub_n (g_sub_n (g_sub_n g_sub_0))))))) (b_X8_answer_b52  _ _ _ _ _ _)
  · refine X_iload rfl rfl rfl ?_
    refine X_iconst (v := 1) rfl rfl (by decide) ?_
    refine X_bicmp_ne rfl rfl (fun _ => ?_) (fun _ => ?_)
    · refine X_aload_n rfl rfl rfl ?_
      refine X_iload_n rfl rfl rfl ?_
      refine X_bipush (v := 7) rfl rfl (by decide) ?_
      refine X_callV_IR (M' := M_X8_ofChannel) (nA := 2) (As := [.int p2, .int 7]) (st := []) (b := a0) (ci := 8) rfl rfl (by decide +kernel) rfl rfl rfl rfl rfl rfl rfl rfl (fun _ e => ct_X8_ofChannel e) (fun v41 => ?_)
      refine X_bif_ne rfl rfl (fun _ => ?_) (fun _ => ?_)
      · refine X_iconst (v := 1) rfl rfl (by decide) ?_
        refine X_goto rfl rfl ?_
        exact X_sub (g_sub_s (g_sub_s (g_sub_s (g_sub_s (g_sub_n (g_sub_n (g_sub_n g_sub_0))))))) (b_X8_answer_b52  _ _ _ _ _ _)
      · exact X_sub (g_sub_s (g_sub_s (g_sub_s (g_sub_s (g_sub_n (g_sub_n (g_sub_n g_sub_0))))))) (b_X8_answer_b51  _ _ _ _ _)
    · exact X_sub (g_sub_s (g_sub_s (g_sub_s (g_sub_s (g_sub_n (g_sub_n (g_sub_n g_sub_0))))))) (b_X8_answer_b51  _ _ _ _ _)
def f_X8_checkOf_b5 (h : gH) : Nat → Nat → Int32 → Int32 → Int32 → Int32 → Option (Int32)
  | 0, _, _, _, _, _ => none
  | n + 1, l0, l1, l2, l3, l4 =>
    bif g_is h l0 8 then
    (f_X8_lettersOf h l0 l1 l2).bind fun v10 =>
    (if l4 < v10 then
      (g_gA h l0 8 8).bind fun v23 =>
      (g_ald h v23 8).bind fun v28 =>
      bif g_is h l0 8 then
      (f_X8_of h l0 l1 ((6 + (l2 * v28)) + l4)).bind fun v34 =>
      f_X8_checkOf_b5 h n l0 l1 l2 (l3 + v34) (l4 + 1)
      else none
    else
      some (g_rem l3 26))
    else none
def f_X8_checkOf (h : gH) (a0 : Nat) (p1 : Int32) (p2 : Int32) : Option (Int32) :=
  f_X8_checkOf_b5 h g_N a0 p1 p2 p2 0
set_option maxRecDepth 100000 in
theorem b_X8_checkOf_b5 {l : Launch} {G : gG} {h : gH} : ∀ (n : Nat) (l0 : Nat) (l1 : Int32) (l2 : Int32) (l3 : Int32) (l4 : Int32), GX l G M_X8_checkOf (g_phi G (g_rI h) (m_R M_X8_checkOf).cells (m_R M_X8_checkOf).slots) 0 0 5 [some (.ref l0), some (.int l1), some (.int l2), some (.int l3), some (.int l4)] [] h (f_X8_checkOf_b5 h n l0 l1 l2 l3 l4) := by
  intro n
  induction n with
  | zero => intros; exact X_none
  | succ n ih =>
    intro l0 l1 l2 l3 l4
    rw [f_X8_checkOf_b5]
    refine X_iload rfl rfl rfl ?_
    refine X_aload_n rfl rfl rfl ?_
    refine X_iload_n rfl rfl rfl ?_
    refine X_iload_n rfl rfl rfl ?_
    refine X_callV_IR (M' := M_X8_lettersOf) (nA := 2) (As := [.int l1, .int l2]) (st := [.int l4]) (b := l0) (ci := 8) rfl rfl (by decide +kernel) rfl rfl rfl rfl rfl rfl rfl rfl (fun _ e => ct_X8_lettersOf e) (fun v10 => ?_)
    refine X_bicmp_ge rfl rfl (fun _ => ?_) (fun _ => ?_)
    · refine X_iload_n rfl rfl rfl ?_
      refine X_aload_n rfl rfl rfl ?_
      refine X_iload_n rfl rfl rfl ?_
      refine X_bipush (v := 6) rfl rfl (by decide) ?_
      refine X_iload_n rfl rfl rfl ?_
      refine X_aload_n rfl rfl rfl ?_
      refine X_getA rfl rfl (fun v23 => ?_)
      refine X_bipush (v := 8) rfl rfl (by decide) ?_
      refine X_ald rfl rfl (fun v28 => ?_)
      refine X_imul rfl rfl ?_
      refine X_iadd rfl rfl ?_
      refine X_iload rfl rfl rfl ?_
      refine X_iadd rfl rfl ?_
      refine X_callV_IR (M' := M_X8_of) (nA := 2) (As := [.int l1, .int ((6 + (l2 * v28)) + l4)]) (st := [.int l3]) (b := l0) (ci := 8) rfl rfl (by decide +kernel) rfl rfl rfl rfl rfl rfl rfl rfl (fun _ e => ct_X8_of e) (fun v34 => ?_)
      refine X_iadd rfl rfl ?_
      refine X_istore_n rfl rfl rfl rfl ?_
      refine X_iinc (v := l4 + 1) rfl rfl rfl (congrArg (fun z => l4 + z) (by decide : Int32.ofInt 1 = 1)) rfl ?_
      refine X_goto rfl rfl ?_
      exact X_sub (g_sub_s (g_sub_s (g_sub_s (g_sub_s (g_sub_s g_sub_0))))) (ih _ _ _ _ _)
    · refine X_iload_n rfl rfl rfl ?_
      refine X_bipush (v := 26) rfl rfl (by decide) ?_
      refine X_irem (v := g_rem l3 26) rfl rfl rfl (by decide) ?_
      exact X_iret rfl rfl rfl rfl rfl rfl rfl
set_option maxRecDepth 100000 in
theorem ct_X8_checkOf {l : Launch} {G : gG} {h : gH} {a0 : Nat} {p1 : Int32} {p2 : Int32} {r : Int32} (e : f_X8_checkOf h a0 p1 p2 = some r) : Ct l G M_X8_checkOf [.ref a0, .int p1, .int p2] h (some (.int r)) h := by
  refine Ct_of (L := [some (.ref a0), some (.int p1), some (.int p2), none, none]) ok_X8_checkOf (by decide +kernel) rfl rfl rfl (ρ := (g_rI h)) (F := f_X8_checkOf h a0 p1 p2) ?_ e rfl
  unfold f_X8_checkOf
  refine X_iload_n rfl rfl rfl ?_
  refine X_istore_n rfl rfl rfl rfl ?_
  refine X_iconst (v := 0) rfl rfl (by decide) ?_
  refine X_istore rfl rfl rfl rfl ?_
  exact X_sub (g_sub_s (g_sub_s (g_sub_s (g_sub_s (g_sub_s g_sub_0))))) (b_X8_checkOf_b5  _ _ _ _ _ _)
def f_X8_step_b192 (h : gH) (l0 : Nat) (l2 : Int32) (l4 : Int32) : Option gH :=
  bif g_is h l0 8 then
  (f_X8_setChannel h l0 l2 4 (l4 + 1)).bind fun h199 =>
  some h199
  else none
def f_X8_step (h : gH) (a0 : Nat) (p1 : Int32) (p2 : Int32) : Option gH :=
  bif g_is h a0 8 then
  (f_X8_ofChannel h a0 p2 3).bind fun v3 =>
  bif g_is h a0 8 then
  (f_X8_ofChannel h a0 p2 4).bind fun v10 =>
  bif g_is h a0 8 then
  (f_X8_lettersOf h a0 p1 v3).bind fun v18 =>
  bif g_is h a0 8 then
  (f_X8_of h a0 p1 0).bind fun v26 =>
  (if v10 = (v18 + 2) then
    bif g_is h a0 8 then
    (f_X8_answer h a0 p1 p2 v3).bind fun h44 =>
    some h44
    else none
  else
    (if v10 = 0 then
      bif g_is h a0 8 then
      (f_X8_setChannel h a0 p2 5 0).bind fun h57 =>
      bif g_is h57 a0 8 then
      (f_X8_symbol h57 a0 p2 v3).bind fun y63 =>
      bif g_is y63.2 a0 8 then
      (f_X8_setChannel y63.2 a0 p2 6 y63.1).bind fun h74 =>
      f_X8_step_b192 h74 a0 p2 v10
      else none
      else none
      else none
    else
      (if v10 ≤ v18 then
        (g_gA h a0 8 8).bind fun v95 =>
        (g_ald h v95 8).bind fun v100 =>
        bif g_is h a0 8 then
        (f_X8_of h a0 p1 (((6 + (v3 * v100)) + v10) - 1)).bind fun v108 =>
        (g_gA h a0 8 8).bind fun v115 =>
        (g_ald h v115 0).bind fun v119 =>
        bif g_is h a0 8 then
        (f_X8_keyOf h a0 v26 v119).bind fun v120 =>
        bif g_is h a0 8 then
        (f_X8_symbol h a0 p2 (g_rem (v108 + v120) 26)).bind fun y127 =>
        (g_gA y127.2 a0 8 8).bind fun v152 =>
        (g_ald y127.2 v152 0).bind fun v156 =>
        bif g_is y127.2 a0 8 then
        (f_X8_keyOf y127.2 a0 (1 - v26) v156).bind fun v157 =>
        bif g_is y127.2 a0 8 then
        (f_X8_setChannel y127.2 a0 p2 ((8 + v10) - 1) (g_rem ((y127.1 + 26) - v157) 26)).bind fun h164 =>
        f_X8_step_b192 h164 a0 p2 v10
        else none
        else none
        else none
        else none
        else none
      else
        bif g_is h a0 8 then
        (f_X8_checkOf h a0 p1 v3).bind fun v175 =>
        bif g_is h a0 8 then
        (f_X8_symbol h a0 p2 v175).bind fun y178 =>
        bif g_is y178.2 a0 8 then
        (f_X8_judge y178.2 a0 p1 p2 v3 y178.1).bind fun h189 =>
        f_X8_step_b192 h189 a0 p2 v10
        else none
        else none
        else none)))
  else none
  else none
  else none
  else none
set_option maxRecDepth 100000 in
theorem b_X8_step_b192 {l : Launch} {G : gG} (h : gH) (l0 : Nat) (l2 : Int32) (l4 : Int32) : GX l G M_X8_step (g_phi G g_wU (m_R M_X8_step).cells (m_R M_X8_step).slots) 0 0 192 [some (.ref l0), none, some (.int l2), none, some (.int l4), none, none, none] [] h (f_X8_step_b192 h l0 l2 l4) := by
  unfold f_X8_step_b192
  refine X_aload_n rfl rfl rfl ?_
  refine X_iload_n rfl rfl rfl ?_
  refine X_iconst (v := 4) rfl rfl (by decide) ?_
  refine X_iload rfl rfl rfl ?_
  refine X_iconst (v := 1) rfl rfl (by decide) ?_
  refine X_iadd rfl rfl ?_
  refine X_callV_UW (M' := M_X8_setChannel) (nA := 3) (As := [.int l2, .int 4, .int (l4 + 1)]) (st := []) (b := l0) (ci := 8) rfl rfl (by decide +kernel) rfl rfl rfl rfl rfl rfl rfl rfl (fun _ e => ct_X8_setChannel e) (fun h199 => ?_)
  exact X_vret rfl rfl rfl rfl rfl rfl
set_option maxRecDepth 100000 in
theorem ct_X8_step {l : Launch} {G : gG} {h : gH} {a0 : Nat} {p1 : Int32} {p2 : Int32} {h1 : gH} (e : f_X8_step h a0 p1 p2 = some h1) : Ct l G M_X8_step [.ref a0, .int p1, .int p2] h none h1 := by
  refine Ct_of (L := [some (.ref a0), some (.int p1), some (.int p2), none, none, none, none, none]) ok_X8_step (by decide +kernel) rfl rfl rfl (ρ := g_wU) (F := f_X8_step h a0 p1 p2) ?_ e rfl
  unfold f_X8_step
  refine X_aload_n rfl rfl rfl ?_
  refine X_iload_n rfl rfl rfl ?_
  refine X_iconst (v := 3) rfl rfl (by decide) ?_
  refine X_callV_IR (M' := M_X8_ofChannel) (nA := 2) (As := [.int p2, .int 3]) (st := []) (b := a0) (ci := 8) rfl rfl (by decide +kernel) rfl rfl rfl rfl rfl rfl rfl rfl (fun _ e => ct_X8_ofChannel e) (fun v3 => ?_)
  refine X_istore_n rfl rfl rfl rfl ?_
  refine X_aload_n rfl rfl rfl ?_
  refine X_iload_n rfl rfl rfl ?_
  refine X_iconst (v := 4) rfl rfl (by decide) ?_
  refine X_callV_IR (M' := M_X8_ofChannel) (nA := 2) (As := [.int p2, .int 4]) (st := []) (b := a0) (ci := 8) rfl rfl (by decide +kernel) rfl rfl rfl rfl rfl rfl rfl rfl (fun _ e => ct_X8_ofChannel e) (fun v10 => ?_)
  refine X_istore rfl rfl rfl rfl ?_
  refine X_aload_n rfl rfl rfl ?_
  refine X_iload_n rfl rfl rfl ?_
  refine X_iload_n rfl rfl rfl ?_
  refine X_callV_IR (M' := M_X8_lettersOf) (nA := 2) (As := [.int p1, .int v3]) (st := []) (b := a0) (ci := 8) rfl rfl (by decide +kernel) rfl rfl rfl rfl rfl rfl rfl rfl (fun _ e => ct_X8_lettersOf e) (fun v18 => ?_)
  refine X_istore rfl rfl rfl rfl ?_
  refine X_aload_n rfl rfl rfl ?_
  refine X_iload_n rfl rfl rfl ?_
  refine X_iconst (v := 0) rfl rfl (by decide) ?_
  refine X_callV_IR (M' := M_X8_of) (nA := 2) (As := [.int p1, .int 0]) (st := []) (b := a0) (ci := 8) rfl rfl (by decide +kernel) rfl rfl rfl rfl rfl rfl rfl rfl (fun _ e => ct_X8_of e) (fun v26 => ?_)
  refine X_istore rfl rfl rfl rfl ?_
  refine X_iload rfl rfl rfl ?_
  refine X_iload rfl rfl rfl ?_
  refine X_iconst (v := 2) rfl rfl (by decide) ?_
  refine X_iadd rfl rfl ?_
  refine X_bicmp_ne rfl rfl (fun _ => ?_) (fun _ => ?_)
  · refine X_aload_n rfl rfl rfl ?_
    refine X_iload_n rfl rfl rfl ?_
    refine X_iload_n rfl rfl rfl ?_
    refine X_iload_n rfl rfl rfl ?_
    refine X_callV_UW (M' := M_X8_answer) (nA := 3) (As := [.int p1, .int p2, .int v3]) (st := []) (b := a0) (ci := 8) rfl rfl (by decide +kernel) rfl rfl rfl rfl rfl rfl rfl rfl (fun _ e => ct_X8_answer e) (fun h44 => ?_)
    exact X_vret rfl rfl rfl rfl rfl rfl
  · refine X_iload rfl rfl rfl ?_
    refine X_bif_ne rfl rfl (fun _ => ?_) (fun _ => ?_)
    · refine X_aload_n rfl rfl rfl ?_
      refine X_iload_n rfl rfl rfl ?_
      refine X_iconst (v := 5) rfl rfl (by decide) ?_
      refine X_iconst (v := 0) rfl rfl (by decide) ?_
      refine X_callV_UW (M' := M_X8_setChannel) (nA := 3) (As := [.int p2, .int 5, .int 0]) (st := []) (b := a0) (ci := 8) rfl rfl (by decide +kernel) rfl rfl rfl rfl rfl rfl rfl rfl (fun _ e => ct_X8_setChannel e) (fun h57 => ?_)
      refine X_aload_n rfl rfl rfl ?_
      refine X_iload_n rfl rfl rfl ?_
      refine X_iload_n rfl rfl rfl ?_
      refine X_callV_IW (M' := M_X8_symbol) (nA := 2) (As := [.int p2, .int v3]) (st := []) (b := a0) (ci := 8) rfl rfl (by decide +kernel) rfl rfl rfl rfl rfl rfl rfl rfl (fun _ _ e => ct_X8_symbol e) (fun y63 => ?_)
      refine X_istore rfl rfl rfl rfl ?_
      refine X_aload_n rfl rfl rfl ?_
      refine X_iload_n rfl rfl rfl ?_
      refine X_bipush (v := 6) rfl rfl (by decide) ?_
      refine X_iload rfl rfl rfl ?_
      refine X_callV_UW (M' := M_X8_setChannel) (nA := 3) (As := [.int p2, .int 6, .int y63.1]) (st := []) (b := a0) (ci := 8) rfl rfl (by decide +kernel) rfl rfl rfl rfl rfl rfl rfl rfl (fun _ e => ct_X8_setChannel e) (fun h74 => ?_)
      refine X_goto rfl rfl ?_
      exact X_sub (g_sub_s (g_sub_n (g_sub_s (g_sub_n (g_sub_s (g_sub_n (g_sub_n (g_sub_n g_sub_0)))))))) (b_X8_step_b192  _ _ _ _)
    · refine X_iload rfl rfl rfl ?_
      refine X_iload rfl rfl rfl ?_
      refine X_bicmp_gt rfl rfl (fun _ => ?_) (fun _ => ?_)
      · refine X_aload_n rfl rfl rfl ?_
        refine X_iload_n rfl rfl rfl ?_
        refine X_aload_n rfl rfl rfl ?_
        refine X_iload_n rfl rfl rfl ?_
        refine X_bipush (v := 6) rfl rfl (by decide) ?_
        refine X_iload_n rfl rfl rfl ?_
        refine X_aload_n rfl rfl rfl ?_
        refine X_getA rfl rfl (fun v95 => ?_)
        refine X_bipush (v := 8) rfl rfl (by decide) ?_
        refine X_ald rfl rfl (fun v100 => ?_)
        refine X_imul rfl rfl ?_
        refine X_iadd rfl rfl ?_
        refine X_iload rfl rfl rfl ?_
        refine X_iadd rfl rfl ?_
        refine X_iconst (v := 1) rfl rfl (by decide) ?_
        refine X_isub rfl rfl ?_
        refine X_callV_IR (M' := M_X8_of) (nA := 2) (As := [.int p1, .int (((6 + (v3 * v100)) + v10) - 1)]) (st := [.int p2, .ref a0]) (b := a0) (ci := 8) rfl rfl (by decide +kernel) rfl rfl rfl rfl rfl rfl rfl rfl (fun _ e => ct_X8_of e) (fun v108 => ?_)
        refine X_aload_n rfl rfl rfl ?_
        refine X_iload rfl rfl rfl ?_
        refine X_aload_n rfl rfl rfl ?_
        refine X_getA rfl rfl (fun v115 => ?_)
        refine X_iconst (v := 0) rfl rfl (by decide) ?_
        refine X_ald rfl rfl (fun v119 => ?_)
        refine X_callV_IR (M' := M_X8_keyOf) (nA := 2) (As := [.int v26, .int v119]) (st := [.int v108, .int p2, .ref a0]) (b := a0) (ci := 8) rfl rfl (by decide +kernel) rfl rfl rfl rfl rfl rfl rfl rfl (fun _ e => ct_X8_keyOf e) (fun v120 => ?_)
        refine X_iadd rfl rfl ?_
        refine X_bipush (v := 26) rfl rfl (by decide) ?_
        refine X_irem (v := g_rem (v108 + v120) 26) rfl rfl rfl (by decide) ?_
        refine X_callV_IW (M' := M_X8_symbol) (nA := 2) (As := [.int p2, .int (g_rem (v108 + v120) 26)]) (st := []) (b := a0) (ci := 8) rfl rfl (by decide +kernel) rfl rfl rfl rfl rfl rfl rfl rfl (fun _ _ e => ct_X8_symbol e) (fun y127 => ?_)
        refine X_istore rfl rfl rfl rfl ?_
        refine X_aload_n rfl rfl rfl ?_
        refine X_iload_n rfl rfl rfl ?_
        refine X_bipush (v := 8) rfl rfl (by decide) ?_
        refine X_iload rfl rfl rfl ?_
        refine X_iadd rfl rfl ?_
        refine X_iconst (v := 1) rfl rfl (by decide) ?_
        refine X_isub rfl rfl ?_
        refine X_iload rfl rfl rfl ?_
        refine X_bipush (v := 26) rfl rfl (by decide) ?_
        refine X_iadd rfl rfl ?_
        refine X_aload_n rfl rfl rfl ?_
        refine X_iconst (v := 1) rfl rfl (by decide) ?_
        refine X_iload rfl rfl rfl ?_
        refine X_isub rfl rfl ?_
        refine X_aload_n rfl rfl rfl ?_
        refine X_getA rfl rfl (fun v152 => ?_)
        refine X_iconst (v := 0) rfl rfl (by decide) ?_
        refine X_ald rfl rfl (fun v156 => ?_)
        refine X_callV_IR (M' := M_X8_keyOf) (nA := 2) (As := [.int (1 - v26), .int v156]) (st := [.int (y127.1 + 26), .int ((8 + v10) - 1), .int p2, .ref a0]) (b := a0) (ci := 8) rfl rfl (by decide +kernel) rfl rfl rfl rfl rfl rfl rfl rfl (fun _ e => ct_X8_keyOf e) (fun v157 => ?_)
        refine X_isub rfl rfl ?_
        refine X_bipush (v := 26) rfl rfl (by decide) ?_
        refine X_irem (v := g_rem ((y127.1 + 26) - v157) 26) rfl rfl rfl (by decide) ?_
        refine X_callV_UW (M' := M_X8_setChannel) (nA := 3) (As := [.int p2, .int ((8 + v10) - 1), .int (g_rem ((y127.1 + 26) - v157) 26)]) (st := []) (b := a0) (ci := 8) rfl rfl (by decide +kernel) rfl rfl rfl rfl rfl rfl rfl rfl (fun _ e => ct_X8_setChannel e) (fun h164 => ?_)
        refine X_goto rfl rfl ?_
        exact X_sub (g_sub_s (g_sub_n (g_sub_s (g_sub_n (g_sub_s (g_sub_n (g_sub_n (g_sub_n g_sub_0)))))))) (b_X8_step_b192  _ _ _ _)
      · refine X_aload_n rfl rfl rfl ?_
        refine X_iload_n rfl rfl rfl ?_
        refine X_aload_n rfl rfl rfl ?_
        refine X_iload_n rfl rfl rfl ?_
        refine X_iload_n rfl rfl rfl ?_
        refine X_callV_IR (M' := M_X8_checkOf) (nA := 2) (As := [.int p1, .int v3]) (st := [.int p2, .ref a0]) (b := a0) (ci := 8) rfl rfl (by decide +kernel) rfl rfl rfl rfl rfl rfl rfl rfl (fun _ e => ct_X8_checkOf e) (fun v175 => ?_)
        refine X_callV_IW (M' := M_X8_symbol) (nA := 2) (As := [.int p2, .int v175]) (st := []) (b := a0) (ci := 8) rfl rfl (by decide +kernel) rfl rfl rfl rfl rfl rfl rfl rfl (fun _ _ e => ct_X8_symbol e) (fun y178 => ?_)
        refine X_istore rfl rfl rfl rfl ?_
        refine X_aload_n rfl rfl rfl ?_
        refine X_iload_n rfl rfl rfl ?_
        refine X_iload_n rfl rfl rfl ?_
        refine X_iload_n rfl rfl rfl ?_
        refine X_iload rfl rfl rfl ?_
        refine X_callV_UW (M' := M_X8_judge) (nA := 4) (As := [.int p1, .int p2, .int v3, .int y178.1]) (st := []) (b := a0) (ci := 8) rfl rfl (by decide +kernel) rfl rfl rfl rfl rfl rfl rfl rfl (fun _ e => ct_X8_judge e) (fun h189 => ?_)
        exact X_sub (g_sub_s (g_sub_n (g_sub_s (g_sub_n (g_sub_s (g_sub_n (g_sub_n (g_sub_n g_sub_0)))))))) (b_X8_step_b192  _ _ _ _)
def f_X8_work_b46 (h : gH) (l0 : Nat) (l1 : Int32) (l2 : Int32) : Option gH :=
  bif g_is h l0 8 then
  (f_X8_step h l0 l1 l2).bind fun h49 =>
  some h49
  else none
def f_X8_work (h : gH) (a0 : Nat) (p1 : Int32) (p2 : Int32) : Option gH :=
  bif g_is h a0 8 then
  (f_X8_ofChannel h a0 p2 3).bind fun v3 =>
  (if v3 = (-1) then
    bif g_is h a0 8 then
    (f_X8_openFrame h a0 p1).bind fun v12 =>
    (if v12 = (-1) then
      some h
    else
      bif g_is h a0 8 then
      (f_X8_setChannel h a0 p2 3 v12).bind fun h26 =>
      bif g_is h26 a0 8 then
      (f_X8_setChannel h26 a0 p2 4 0).bind fun h33 =>
      bif g_is h33 a0 8 then
      (f_X8_set h33 a0 p1 (54 + v12) 1).bind fun h43 =>
      f_X8_work_b46 h43 a0 p1 p2
      else none
      else none
      else none)
    else none
  else
    f_X8_work_b46 h a0 p1 p2)
  else none
set_option maxRecDepth 100000 in
theorem b_X8_work_b46 {l : Launch} {G : gG} (h : gH) (l0 : Nat) (l1 : Int32) (l2 : Int32) : GX l G M_X8_work (g_phi G g_wU (m_R M_X8_work).cells (m_R M_X8_work).slots) 0 0 46 [some (.ref l0), some (.int l1), some (.int l2), none] [] h (f_X8_work_b46 h l0 l1 l2) := by
  unfold f_X8_work_b46
  refine X_aload_n rfl rfl rfl ?_
  refine X_iload_n rfl rfl rfl ?_
  refine X_iload_n rfl rfl rfl ?_
  refine X_callV_UW (M' := M_X8_step) (nA := 2) (As := [.int l1, .int l2]) (st := []) (b := l0) (ci := 8) rfl rfl (by decide +kernel) rfl rfl rfl rfl rfl rfl rfl rfl (fun _ e => ct_X8_step e) (fun h49 => ?_)
  exact X_vret rfl rfl rfl rfl rfl rfl
set_option maxRecDepth 100000 in
theorem ct_X8_work {l : Launch} {G : gG} {h : gH} {a0 : Nat} {p1 : Int32} {p2 : Int32} {h1 : gH} (e : f_X8_work h a0 p1 p2 = some h1) : Ct l G M_X8_work [.ref a0, .int p1, .int p2] h none h1 := by
  refine Ct_of (L := [some (.ref a0), some (.int p1), some (.int p2), none]) ok_X8_work (by decide +kernel) rfl rfl rfl (ρ := g_wU) (F := f_X8_work h a0 p1 p2) ?_ e rfl
  unfold f_X8_work
  refine X_aload_n rfl rfl rfl ?_
  refine X_iload_n rfl rfl rfl ?_
  refine X_iconst (v := 3) rfl rfl (by decide) ?_
  refine X_callV_IR (M' := M_X8_ofChannel) (nA := 2) (As := [.int p2, .int 3]) (st := []) (b := a0) (ci := 8) rfl rfl (by decide +kernel) rfl rfl rfl rfl rfl rfl rfl rfl (fun _ e => ct_X8_ofChannel e) (fun v3 => ?_)
  refine X_iconst (v := -1) rfl rfl (by decide) ?_
  refine X_bicmp_ne rfl rfl (fun _ => ?_) (fun _ => ?_)
  · refine X_aload_n rfl rfl rfl ?_
    refine X_iload_n rfl rfl rfl ?_
    refine X_callV_IR (M' := M_X8_openFrame) (nA := 1) (As := [.int p1]) (st := []) (b := a0) (ci := 8) rfl rfl (by decide +kernel) rfl rfl rfl rfl rfl rfl rfl rfl (fun _ e => ct_X8_openFrame e) (fun v12 => ?_)
    refine X_istore_n rfl rfl rfl rfl ?_
    refine X_iload_n rfl rfl rfl ?_
    refine X_iconst (v := -1) rfl rfl (by decide) ?_
    refine X_bicmp_ne rfl rfl (fun _ => ?_) (fun _ => ?_)
    · exact X_vret rfl rfl rfl rfl rfl rfl
    · refine X_aload_n rfl rfl rfl ?_
      refine X_iload_n rfl rfl rfl ?_
      refine X_iconst (v := 3) rfl rfl (by decide) ?_
      refine X_iload_n rfl rfl rfl ?_
      refine X_callV_UW (M' := M_X8_setChannel) (nA := 3) (As := [.int p2, .int 3, .int v12]) (st := []) (b := a0) (ci := 8) rfl rfl (by decide +kernel) rfl rfl rfl rfl rfl rfl rfl rfl (fun _ e => ct_X8_setChannel e) (fun h26 => ?_)
      refine X_aload_n rfl rfl rfl ?_
      refine X_iload_n rfl rfl rfl ?_
      refine X_iconst (v := 4) rfl rfl (by decide) ?_
      refine X_iconst (v := 0) rfl rfl (by decide) ?_
      refine X_callV_UW (M' := M_X8_setChannel) (nA := 3) (As := [.int p2, .int 4, .int 0]) (st := []) (b := a0) (ci := 8) rfl rfl (by decide +kernel) rfl rfl rfl rfl rfl rfl rfl rfl (fun _ e => ct_X8_setChannel e) (fun h33 => ?_)
      refine X_aload_n rfl rfl rfl ?_
      refine X_iload_n rfl rfl rfl ?_
      refine X_bipush (v := 54) rfl rfl (by decide) ?_
      refine X_iload_n rfl rfl rfl ?_
      refine X_iadd rfl rfl ?_
      refine X_iconst (v := 1) rfl rfl (by decide) ?_
      refine X_callV_UW (M' := M_X8_set) (nA := 3) (As := [.int p1, .int (54 + v12), .int 1]) (st := []) (b := a0) (ci := 8) rfl rfl (by decide +kernel) rfl rfl rfl rfl rfl rfl rfl rfl (fun _ e => ct_X8_set e) (fun h43 => ?_)
      exact X_sub (g_sub_s (g_sub_s (g_sub_s (g_sub_n g_sub_0)))) (b_X8_work_b46  _ _ _ _)
  · exact X_sub (g_sub_s (g_sub_s (g_sub_s (g_sub_n g_sub_0)))) (b_X8_work_b46  _ _ _ _)
def f_X8_isThrough_b2 (h : gH) : Nat → Nat → Int32 → Int32 → Option (Int32)
  | 0, _, _, _ => none
  | n + 1, l0, l1, l2 =>
    bif g_is h l0 8 then
    (f_X8_frames h l0 l1).bind fun v5 =>
    (if l2 < v5 then
      bif g_is h l0 8 then
      (f_X8_of h l0 l1 (54 + l2)).bind fun v17 =>
      (if v17 < 2 then
        some 0
      else
        f_X8_isThrough_b2 h n l0 l1 (l2 + 1))
      else none
    else
      some 1)
    else none
def f_X8_isThrough (h : gH) (a0 : Nat) (p1 : Int32) : Option (Int32) :=
  f_X8_isThrough_b2 h g_N a0 p1 0
set_option maxRecDepth 100000 in
theorem b_X8_isThrough_b2 {l : Launch} {G : gG} {h : gH} : ∀ (n : Nat) (l0 : Nat) (l1 : Int32) (l2 : Int32), GX l G M_X8_isThrough (g_phi G (g_rI h) (m_R M_X8_isThrough).cells (m_R M_X8_isThrough).slots) 0 0 2 [some (.ref l0), some (.int l1), some (.int l2)] [] h (f_X8_isThrough_b2 h n l0 l1 l2) := by
  intro n
  induction n with
  | zero => intros; exact X_none
  | succ n ih =>
    intro l0 l1 l2
    rw [f_X8_isThrough_b2]
    refine X_iload_n rfl rfl rfl ?_
    refine X_aload_n rfl rfl rfl ?_
    refine X_iload_n rfl rfl rfl ?_
    refine X_callV_IR (M' := M_X8_frames) (nA := 1) (As := [.int l1]) (st := [.int l2]) (b := l0) (ci := 8) rfl rfl (by decide +kernel) rfl rfl rfl rfl rfl rfl rfl rfl (fun _ e => ct_X8_frames e) (fun v5 => ?_)
    refine X_bicmp_ge rfl rfl (fun _ => ?_) (fun _ => ?_)
    · refine X_aload_n rfl rfl rfl ?_
      refine X_iload_n rfl rfl rfl ?_
      refine X_bipush (v := 54) rfl rfl (by decide) ?_
      refine X_iload_n rfl rfl rfl ?_
      refine X_iadd rfl rfl ?_
      refine X_callV_IR (M' := M_X8_of) (nA := 2) (As := [.int l1, .int (54 + l2)]) (st := []) (b := l0) (ci := 8) rfl rfl (by decide +kernel) rfl rfl rfl rfl rfl rfl rfl rfl (fun _ e => ct_X8_of e) (fun v17 => ?_)
      refine X_iconst (v := 2) rfl rfl (by decide) ?_
      refine X_bicmp_ge rfl rfl (fun _ => ?_) (fun _ => ?_)
      · refine X_iconst (v := 0) rfl rfl (by decide) ?_
        exact X_iret rfl rfl rfl rfl rfl rfl rfl
      · refine X_iinc (v := l2 + 1) rfl rfl rfl (congrArg (fun z => l2 + z) (by decide : Int32.ofInt 1 = 1)) rfl ?_
        refine X_goto rfl rfl ?_
        exact X_sub (g_sub_s (g_sub_s (g_sub_s g_sub_0))) (ih _ _ _)
    · refine X_iconst (v := 1) rfl rfl (by decide) ?_
      exact X_iret rfl rfl rfl rfl rfl rfl rfl
set_option maxRecDepth 100000 in
theorem ct_X8_isThrough {l : Launch} {G : gG} {h : gH} {a0 : Nat} {p1 : Int32} {r : Int32} (e : f_X8_isThrough h a0 p1 = some r) : Ct l G M_X8_isThrough [.ref a0, .int p1] h (some (.int r)) h := by
  refine Ct_of (L := [some (.ref a0), some (.int p1), none]) ok_X8_isThrough (by decide +kernel) rfl rfl rfl (ρ := (g_rI h)) (F := f_X8_isThrough h a0 p1) ?_ e rfl
  unfold f_X8_isThrough
  refine X_iconst (v := 0) rfl rfl (by decide) ?_
  refine X_istore_n rfl rfl rfl rfl ?_
  exact X_sub (g_sub_s (g_sub_s (g_sub_s g_sub_0))) (b_X8_isThrough_b2  _ _ _ _)
def f_X8_tick_b120 (K49 : gH → Nat → Int32 → Option gH) (h : gH) (l0 : Nat) (l1 : Int32) : Option gH :=
  K49 h l0 (l1 + 1)
def f_X8_tick_b49 : Nat → gH → Nat → Int32 → Option gH
  | 0, _, _, _ => none
  | n + 1, h, l0, l1 =>
    (if l1 < 2 then
      (g_gA h l0 8 8).bind fun v55 =>
      (g_ald h v55 2).bind fun v59 =>
      (if v59 = (-1) then
        f_X8_tick_b120 (f_X8_tick_b49  n) h l0 l1
      else
        bif g_is h l0 8 then
        (f_X8_isOpen h l0 l1).bind fun v68 =>
        (if v68 = 0 then
          f_X8_tick_b120 (f_X8_tick_b49  n) h l0 l1
        else
          bif g_is h l0 8 then
          (f_X8_work h l0 v59 l1).bind fun h80 =>
          bif g_is h80 l0 8 then
          (f_X8_isThrough h80 l0 v59).bind fun v85 =>
          (if v85 = 0 then
            f_X8_tick_b120 (f_X8_tick_b49  n) h80 l0 l1
          else
            bif g_is h80 l0 8 then
            (f_X8_set h80 l0 v59 3 2).bind fun h98 =>
            (g_gA h98 l0 8 8).bind fun v105 =>
            (g_ald h98 v105 0).bind fun v109 =>
            bif g_is h98 l0 8 then
            (f_X8_set h98 l0 v59 5 v109).bind fun h110 =>
            (g_gA h110 l0 8 8).bind fun v114 =>
            (g_ast h110 v114 2 (-1)).bind fun h119 =>
            f_X8_tick_b120 (f_X8_tick_b49  n) h119 l0 l1
            else none
            else none)
          else none
          else none)
        else none)
    else
      (g_gA h l0 8 8).bind fun v127 =>
      (g_ald h v127 0).bind fun v132 =>
      (g_ast h v127 0 (v132 + 1)).bind fun h135 =>
      some h135)
def f_X8_tick_b47 (h : gH) (l0 : Nat) : Option gH :=
  f_X8_tick_b49 g_N h l0 0
def f_X8_tick (h : gH) (a0 : Nat) : Option gH :=
  (g_gA h a0 8 8).bind fun v1 =>
  (g_ald h v1 2).bind fun v5 =>
  (if v5 = (-1) then
    bif g_is h a0 8 then
    (f_X8_nextMessage h a0 0).bind fun v12 =>
    (g_gA h a0 8 8).bind fun v17 =>
    (g_ast h v17 2 v12).bind fun h22 =>
    (if v12 = (-1) then
      f_X8_tick_b47 h22 a0
    else
      bif g_is h22 a0 8 then
      (f_X8_set h22 a0 v12 3 1).bind fun h32 =>
      (g_gA h32 a0 8 8).bind fun v39 =>
      (g_ald h32 v39 0).bind fun v43 =>
      bif g_is h32 a0 8 then
      (f_X8_set h32 a0 v12 4 v43).bind fun h44 =>
      f_X8_tick_b47 h44 a0
      else none
      else none)
    else none
  else
    f_X8_tick_b47 h a0)
set_option maxRecDepth 100000 in
theorem b_X8_tick_b120 {l : Launch} {G : gG} {K49 : gH → Nat → Int32 → Option gH} (hK49 : ∀ (h : gH) (l0 : Nat) (l1 : Int32), GX l G M_X8_tick (g_phi G g_wU (m_R M_X8_tick).cells (m_R M_X8_tick).slots) 0 0 49 [some (.ref l0), some (.int l1), none] [] h (K49 h l0 l1)) (h : gH) (l0 : Nat) (l1 : Int32) : GX l G M_X8_tick (g_phi G g_wU (m_R M_X8_tick).cells (m_R M_X8_tick).slots) 0 0 120 [some (.ref l0), some (.int l1), none] [] h (f_X8_tick_b120 K49 h l0 l1) := by
  unfold f_X8_tick_b120
  refine X_iinc (v := l1 + 1) rfl rfl rfl (congrArg (fun z => l1 + z) (by decide : Int32.ofInt 1 = 1)) rfl ?_
  refine X_goto rfl rfl ?_
  exact X_sub (g_sub_s (g_sub_s (g_sub_n g_sub_0))) (hK49 _ _ _)
set_option maxRecDepth 100000 in
theorem b_X8_tick_b49 {l : Launch} {G : gG} : ∀ (n : Nat) (h : gH) (l0 : Nat) (l1 : Int32), GX l G M_X8_tick (g_phi G g_wU (m_R M_X8_tick).cells (m_R M_X8_tick).slots) 0 0 49 [some (.ref l0), some (.int l1), none] [] h (f_X8_tick_b49 n h l0 l1) := by
  intro n
  induction n with
  | zero => intros; exact X_none
  | succ n ih =>
    intro h l0 l1
    rw [f_X8_tick_b49]
    refine X_iload_n rfl rfl rfl ?_
    refine X_iconst (v := 2) rfl rfl (by decide) ?_
    refine X_bicmp_ge rfl rfl (fun _ => ?_) (fun _ => ?_)
    · refine X_aload_n rfl rfl rfl ?_
      refine X_getA rfl rfl (fun v55 => ?_)
      refine X_iconst (v := 2) rfl rfl (by decide) ?_
      refine X_ald rfl rfl (fun v59 => ?_)
      refine X_istore_n rfl rfl rfl rfl ?_
      refine X_iload_n rfl rfl rfl ?_
      refine X_iconst (v := -1) rfl rfl (by decide) ?_
      refine X_bicmp_eq rfl rfl (fun _ => ?_) (fun _ => ?_)
      · exact X_sub (g_sub_s (g_sub_s (g_sub_n g_sub_0))) (b_X8_tick_b120 ih _ _ _)
      · refine X_aload_n rfl rfl rfl ?_
        refine X_iload_n rfl rfl rfl ?_
        refine X_callV_IR (M' := M_X8_isOpen) (nA := 1) (As := [.int l1]) (st := []) (b := l0) (ci := 8) rfl rfl (by decide +kernel) rfl rfl rfl rfl rfl rfl rfl rfl (fun _ e => ct_X8_isOpen e) (fun v68 => ?_)
        refine X_bif_ne rfl rfl (fun _ => ?_) (fun _ => ?_)
        · refine X_goto rfl rfl ?_
          exact X_sub (g_sub_s (g_sub_s (g_sub_n g_sub_0))) (b_X8_tick_b120 ih _ _ _)
        · refine X_aload_n rfl rfl rfl ?_
          refine X_iload_n rfl rfl rfl ?_
          refine X_iload_n rfl rfl rfl ?_
          refine X_callV_UW (M' := M_X8_work) (nA := 2) (As := [.int v59, .int l1]) (st := []) (b := l0) (ci := 8) rfl rfl (by decide +kernel) rfl rfl rfl rfl rfl rfl rfl rfl (fun _ e => ct_X8_work e) (fun h80 => ?_)
          refine X_aload_n rfl rfl rfl ?_
          refine X_iload_n rfl rfl rfl ?_
          refine X_callV_IR (M' := M_X8_isThrough) (nA := 1) (As := [.int v59]) (st := []) (b := l0) (ci := 8) rfl rfl (by decide +kernel) rfl rfl rfl rfl rfl rfl rfl rfl (fun _ e => ct_X8_isThrough e) (fun v85 => ?_)
          refine X_bif_ne rfl rfl (fun _ => ?_) (fun _ => ?_)
          · refine X_goto rfl rfl ?_
            exact X_sub (g_sub_s (g_sub_s (g_sub_n g_sub_0))) (b_X8_tick_b120 ih _ _ _)
          · refine X_aload_n rfl rfl rfl ?_
            refine X_iload_n rfl rfl rfl ?_
            refine X_iconst (v := 3) rfl rfl (by decide) ?_
            refine X_iconst (v := 2) rfl rfl (by decide) ?_
            refine X_callV_UW (M' := M_X8_set) (nA := 3) (As := [.int v59, .int 3, .int 2]) (st := []) (b := l0) (ci := 8) rfl rfl (by decide +kernel) rfl rfl rfl rfl rfl rfl rfl rfl (fun _ e => ct_X8_set e) (fun h98 => ?_)
            refine X_aload_n rfl rfl rfl ?_
            refine X_iload_n rfl rfl rfl ?_
            refine X_iconst (v := 5) rfl rfl (by decide) ?_
            refine X_aload_n rfl rfl rfl ?_
            refine X_getA rfl rfl (fun v105 => ?_)
            refine X_iconst (v := 0) rfl rfl (by decide) ?_
            refine X_ald rfl rfl (fun v109 => ?_)
            refine X_callV_UW (M' := M_X8_set) (nA := 3) (As := [.int v59, .int 5, .int v109]) (st := []) (b := l0) (ci := 8) rfl rfl (by decide +kernel) rfl rfl rfl rfl rfl rfl rfl rfl (fun _ e => ct_X8_set e) (fun h110 => ?_)
            refine X_aload_n rfl rfl rfl ?_
            refine X_getA rfl rfl (fun v114 => ?_)
            refine X_iconst (v := 2) rfl rfl (by decide) ?_
            refine X_iconst (v := -1) rfl rfl (by decide) ?_
            refine X_ast rfl rfl (fun h119 => ?_)
            exact X_sub (g_sub_s (g_sub_s (g_sub_n g_sub_0))) (b_X8_tick_b120 ih _ _ _)
    · refine X_aload_n rfl rfl rfl ?_
      refine X_getA rfl rfl (fun v127 => ?_)
      refine X_iconst (v := 0) rfl rfl (by decide) ?_
      refine X_dup2 rfl rfl rfl rfl ?_
      refine X_ald rfl rfl (fun v132 => ?_)
      refine X_iconst (v := 1) rfl rfl (by decide) ?_
      refine X_iadd rfl rfl ?_
      refine X_ast rfl rfl (fun h135 => ?_)
      exact X_vret rfl rfl rfl rfl rfl rfl
set_option maxRecDepth 100000 in
theorem b_X8_tick_b47 {l : Launch} {G : gG} (h : gH) (l0 : Nat) : GX l G M_X8_tick (g_phi G g_wU (m_R M_X8_tick).cells (m_R M_X8_tick).slots) 0 0 47 [some (.ref l0), none, none] [] h (f_X8_tick_b47 h l0) := by
  unfold f_X8_tick_b47
  refine X_iconst (v := 0) rfl rfl (by decide) ?_
  refine X_istore_n rfl rfl rfl rfl ?_
  exact X_sub (g_sub_s (g_sub_s (g_sub_n g_sub_0))) (b_X8_tick_b49  _ _ _ _)
set_option maxRecDepth 100000 in
theorem ct_X8_tick {l : Launch} {G : gG} {h : gH} {a0 : Nat} {h1 : gH} (e : f_X8_tick h a0 = some h1) : Ct l G M_X8_tick [.ref a0] h none h1 := by
  refine Ct_of (L := [some (.ref a0), none, none]) ok_X8_tick (by decide +kernel) rfl rfl rfl (ρ := g_wU) (F := f_X8_tick h a0) ?_ e rfl
  unfold f_X8_tick
  refine X_aload_n rfl rfl rfl ?_
  refine X_getA rfl rfl (fun v1 => ?_)
  refine X_iconst (v := 2) rfl rfl (by decide) ?_
  refine X_ald rfl rfl (fun v5 => ?_)
  refine X_iconst (v := -1) rfl rfl (by decide) ?_
  refine X_bicmp_ne rfl rfl (fun _ => ?_) (fun _ => ?_)
  · refine X_aload_n rfl rfl rfl ?_
    refine X_iconst (v := 0) rfl rfl (by decide) ?_
    refine X_callV_IR (M' := M_X8_nextMessage) (nA := 1) (As := [.int 0]) (st := []) (b := a0) (ci := 8) rfl rfl (by decide +kernel) rfl rfl rfl rfl rfl rfl rfl rfl (fun _ e => ct_X8_nextMessage e) (fun v12 => ?_)
    refine X_istore_n rfl rfl rfl rfl ?_
    refine X_aload_n rfl rfl rfl ?_
    refine X_getA rfl rfl (fun v17 => ?_)
    refine X_iconst (v := 2) rfl rfl (by decide) ?_
    refine X_iload_n rfl rfl rfl ?_
    refine X_ast rfl rfl (fun h22 => ?_)
    refine X_iload_n rfl rfl rfl ?_
    refine X_iconst (v := -1) rfl rfl (by decide) ?_
    refine X_bicmp_eq rfl rfl (fun _ => ?_) (fun _ => ?_)
    · exact X_sub (g_sub_s (g_sub_n (g_sub_n g_sub_0))) (b_X8_tick_b47  _ _)
    · refine X_aload_n rfl rfl rfl ?_
      refine X_iload_n rfl rfl rfl ?_
      refine X_iconst (v := 3) rfl rfl (by decide) ?_
      refine X_iconst (v := 1) rfl rfl (by decide) ?_
      refine X_callV_UW (M' := M_X8_set) (nA := 3) (As := [.int v12, .int 3, .int 1]) (st := []) (b := a0) (ci := 8) rfl rfl (by decide +kernel) rfl rfl rfl rfl rfl rfl rfl rfl (fun _ e => ct_X8_set e) (fun h32 => ?_)
      refine X_aload_n rfl rfl rfl ?_
      refine X_iload_n rfl rfl rfl ?_
      refine X_iconst (v := 4) rfl rfl (by decide) ?_
      refine X_aload_n rfl rfl rfl ?_
      refine X_getA rfl rfl (fun v39 => ?_)
      refine X_iconst (v := 0) rfl rfl (by decide) ?_
      refine X_ald rfl rfl (fun v43 => ?_)
      refine X_callV_UW (M' := M_X8_set) (nA := 3) (As := [.int v12, .int 4, .int v43]) (st := []) (b := a0) (ci := 8) rfl rfl (by decide +kernel) rfl rfl rfl rfl rfl rfl rfl rfl (fun _ e => ct_X8_set e) (fun h44 => ?_)
      exact X_sub (g_sub_s (g_sub_n (g_sub_n g_sub_0))) (b_X8_tick_b47  _ _)
  · exact X_sub (g_sub_s (g_sub_n (g_sub_n g_sub_0))) (b_X8_tick_b47  _ _)
def f_X8_inState_b30 (h : gH) (K4 : Nat → Int32 → Int32 → Int32 → Option (Int32)) (l0 : Nat) (l1 : Int32) (l3 : Int32) (s0 : Int32) (s1 : Int32) : Option (Int32) :=
  K4 l0 l1 (s1 + s0) (l3 + 1)
def f_X8_inState_b4 (h : gH) : Nat → Nat → Int32 → Int32 → Int32 → Option (Int32)
  | 0, _, _, _, _ => none
  | n + 1, l0, l1, l2, l3 =>
    (g_gA h l0 8 8).bind fun v6 =>
    (g_ald h v6 1).bind fun v10 =>
    (if l3 < v10 then
      bif g_is h l0 8 then
      (f_X8_of h l0 l3 3).bind fun v18 =>
      (if v18 = l1 then
        f_X8_inState_b30 h (f_X8_inState_b4 h n) l0 l1 l3 1 l2
      else
        f_X8_inState_b30 h (f_X8_inState_b4 h n) l0 l1 l3 0 l2)
      else none
    else
      some l2)
def f_X8_inState (h : gH) (a0 : Nat) (p1 : Int32) : Option (Int32) :=
  f_X8_inState_b4 h g_N a0 p1 0 0
set_option maxRecDepth 100000 in
theorem b_X8_inState_b30 {l : Launch} {G : gG} {h : gH} {K4 : Nat → Int32 → Int32 → Int32 → Option (Int32)} (hK4 : ∀ (l0 : Nat) (l1 : Int32) (l2 : Int32) (l3 : Int32), GX l G M_X8_inState (g_phi G (g_rI h) (m_R M_X8_inState).cells (m_R M_X8_inState).slots) 0 0 4 [some (.ref l0), some (.int l1), some (.int l2), some (.int l3)] [] h (K4 l0 l1 l2 l3)) (l0 : Nat) (l1 : Int32) (l3 : Int32) (s0 : Int32) (s1 : Int32) : GX l G M_X8_inState (g_phi G (g_rI h) (m_R M_X8_inState).cells (m_R M_X8_inState).slots) 0 0 30 [some (.ref l0), some (.int l1), none, some (.int l3)] [.int s0, .int s1] h (f_X8_inState_b30 h K4 l0 l1 l3 s0 s1) := by
  unfold f_X8_inState_b30
  refine X_iadd rfl rfl ?_
  refine X_istore_n rfl rfl rfl rfl ?_
  refine X_iinc (v := l3 + 1) rfl rfl rfl (congrArg (fun z => l3 + z) (by decide : Int32.ofInt 1 = 1)) rfl ?_
  refine X_goto rfl rfl ?_
  exact X_sub (g_sub_s (g_sub_s (g_sub_s (g_sub_s g_sub_0)))) (hK4 _ _ _ _)
set_option maxRecDepth 100000 in
theorem b_X8_inState_b4 {l : Launch} {G : gG} {h : gH} : ∀ (n : Nat) (l0 : Nat) (l1 : Int32) (l2 : Int32) (l3 : Int32), GX l G M_X8_inState (g_phi G (g_rI h) (m_R M_X8_inState).cells (m_R M_X8_inState).slots) 0 0 4 [some (.ref l0), some (.int l1), some (.int l2), some (.int l3)] [] h (f_X8_inState_b4 h n l0 l1 l2 l3) := by
  intro n
  induction n with
  | zero => intros; exact X_none
  | succ n ih =>
    intro l0 l1 l2 l3
    rw [f_X8_inState_b4]
    refine X_iload_n rfl rfl rfl ?_
    refine X_aload_n rfl rfl rfl ?_
    refine X_getA rfl rfl (fun v6 => ?_)
    refine X_iconst (v := 1) rfl rfl (by decide) ?_
    refine X_ald rfl rfl (fun v10 => ?_)
    refine X_bicmp_ge rfl rfl (fun _ => ?_) (fun _ => ?_)
    · refine X_iload_n rfl rfl rfl ?_
      refine X_aload_n rfl rfl rfl ?_
      refine X_iload_n rfl rfl rfl ?_
      refine X_iconst (v := 3) rfl rfl (by decide) ?_
      refine X_callV_IR (M' := M_X8_of) (nA := 2) (As := [.int l3, .int 3]) (st := [.int l2]) (b := l0) (ci := 8) rfl rfl (by decide +kernel) rfl rfl rfl rfl rfl rfl rfl rfl (fun _ e => ct_X8_of e) (fun v18 => ?_)
      refine X_iload_n rfl rfl rfl ?_
      refine X_bicmp_ne rfl rfl (fun _ => ?_) (fun _ => ?_)
      · refine X_iconst (v := 1) rfl rfl (by decide) ?_
        refine X_goto rfl rfl ?_
        exact X_sub (g_sub_s (g_sub_s (g_sub_n (g_sub_s g_sub_0)))) (b_X8_inState_b30 ih _ _ _ _ _)
      · refine X_iconst (v := 0) rfl rfl (by decide) ?_
        exact X_sub (g_sub_s (g_sub_s (g_sub_n (g_sub_s g_sub_0)))) (b_X8_inState_b30 ih _ _ _ _ _)
    · refine X_iload_n rfl rfl rfl ?_
      exact X_iret rfl rfl rfl rfl rfl rfl rfl
set_option maxRecDepth 100000 in
theorem ct_X8_inState {l : Launch} {G : gG} {h : gH} {a0 : Nat} {p1 : Int32} {r : Int32} (e : f_X8_inState h a0 p1 = some r) : Ct l G M_X8_inState [.ref a0, .int p1] h (some (.int r)) h := by
  refine Ct_of (L := [some (.ref a0), some (.int p1), none, none]) ok_X8_inState (by decide +kernel) rfl rfl rfl (ρ := (g_rI h)) (F := f_X8_inState h a0 p1) ?_ e rfl
  unfold f_X8_inState
  refine X_iconst (v := 0) rfl rfl (by decide) ?_
  refine X_istore_n rfl rfl rfl rfl ?_
  refine X_iconst (v := 0) rfl rfl (by decide) ?_
  refine X_istore_n rfl rfl rfl rfl ?_
  exact X_sub (g_sub_s (g_sub_s (g_sub_s (g_sub_s g_sub_0)))) (b_X8_inState_b4  _ _ _ _ _)
def f_X8_agreeing_b28 (h : gH) (K4 : Nat → Int32 → Int32 → Option (Int32)) (l0 : Nat) (l2 : Int32) (s0 : Int32) (s1 : Int32) : Option (Int32) :=
  K4 l0 (s1 + s0) (l2 + 1)
def f_X8_agreeing_b4 (h : gH) : Nat → Nat → Int32 → Int32 → Option (Int32)
  | 0, _, _, _ => none
  | n + 1, l0, l1, l2 =>
    (g_gA h l0 8 8).bind fun v6 =>
    (g_ald h v6 1).bind fun v10 =>
    (if l2 < v10 then
      bif g_is h l0 8 then
      (f_X8_agrees h l0 l2).bind fun v17 =>
      (if v17 = 0 then
        f_X8_agreeing_b28 h (f_X8_agreeing_b4 h n) l0 l2 0 l1
      else
        f_X8_agreeing_b28 h (f_X8_agreeing_b4 h n) l0 l2 1 l1)
      else none
    else
      some l1)
def f_X8_agreeing (h : gH) (a0 : Nat) : Option (Int32) :=
  f_X8_agreeing_b4 h g_N a0 0 0
set_option maxRecDepth 100000 in
theorem b_X8_agreeing_b28 {l : Launch} {G : gG} {h : gH} {K4 : Nat → Int32 → Int32 → Option (Int32)} (hK4 : ∀ (l0 : Nat) (l1 : Int32) (l2 : Int32), GX l G M_X8_agreeing (g_phi G (g_rI h) (m_R M_X8_agreeing).cells (m_R M_X8_agreeing).slots) 0 0 4 [some (.ref l0), some (.int l1), some (.int l2)] [] h (K4 l0 l1 l2)) (l0 : Nat) (l2 : Int32) (s0 : Int32) (s1 : Int32) : GX l G M_X8_agreeing (g_phi G (g_rI h) (m_R M_X8_agreeing).cells (m_R M_X8_agreeing).slots) 0 0 28 [some (.ref l0), none, some (.int l2)] [.int s0, .int s1] h (f_X8_agreeing_b28 h K4 l0 l2 s0 s1) := by
  unfold f_X8_agreeing_b28
  refine X_iadd rfl rfl ?_
  refine X_istore_n rfl rfl rfl rfl ?_
  refine X_iinc (v := l2 + 1) rfl rfl rfl (congrArg (fun z => l2 + z) (by decide : Int32.ofInt 1 = 1)) rfl ?_
  refine X_goto rfl rfl ?_
  exact X_sub (g_sub_s (g_sub_s (g_sub_s g_sub_0))) (hK4 _ _ _)
set_option maxRecDepth 100000 in
theorem b_X8_agreeing_b4 {l : Launch} {G : gG} {h : gH} : ∀ (n : Nat) (l0 : Nat) (l1 : Int32) (l2 : Int32), GX l G M_X8_agreeing (g_phi G (g_rI h) (m_R M_X8_agreeing).cells (m_R M_X8_agreeing).slots) 0 0 4 [some (.ref l0), some (.int l1), some (.int l2)] [] h (f_X8_agreeing_b4 h n l0 l1 l2) := by
  intro n
  induction n with
  | zero => intros; exact X_none
  | succ n ih =>
    intro l0 l1 l2
    rw [f_X8_agreeing_b4]
    refine X_iload_n rfl rfl rfl ?_
    refine X_aload_n rfl rfl rfl ?_
    refine X_getA rfl rfl (fun v6 => ?_)
    refine X_iconst (v := 1) rfl rfl (by decide) ?_
    refine X_ald rfl rfl (fun v10 => ?_)
    refine X_bicmp_ge rfl rfl (fun _ => ?_) (fun _ => ?_)
    · refine X_iload_n rfl rfl rfl ?_
      refine X_aload_n rfl rfl rfl ?_
      refine X_iload_n rfl rfl rfl ?_
      refine X_callV_IR (M' := M_X8_agrees) (nA := 1) (As := [.int l2]) (st := [.int l1]) (b := l0) (ci := 8) rfl rfl (by decide +kernel) rfl rfl rfl rfl rfl rfl rfl rfl (fun _ e => ct_X8_agrees e) (fun v17 => ?_)
      refine X_bif_eq rfl rfl (fun _ => ?_) (fun _ => ?_)
      · refine X_iconst (v := 0) rfl rfl (by decide) ?_
        exact X_sub (g_sub_s (g_sub_n (g_sub_s g_sub_0))) (b_X8_agreeing_b28 ih _ _ _ _)
      · refine X_iconst (v := 1) rfl rfl (by decide) ?_
        refine X_goto rfl rfl ?_
        exact X_sub (g_sub_s (g_sub_n (g_sub_s g_sub_0))) (b_X8_agreeing_b28 ih _ _ _ _)
    · refine X_iload_n rfl rfl rfl ?_
      exact X_iret rfl rfl rfl rfl rfl rfl rfl
set_option maxRecDepth 100000 in
theorem ct_X8_agreeing {l : Launch} {G : gG} {h : gH} {a0 : Nat} {r : Int32} (e : f_X8_agreeing h a0 = some r) : Ct l G M_X8_agreeing [.ref a0] h (some (.int r)) h := by
  refine Ct_of (L := [some (.ref a0), none, none]) ok_X8_agreeing (by decide +kernel) rfl rfl rfl (ρ := (g_rI h)) (F := f_X8_agreeing h a0) ?_ e rfl
  unfold f_X8_agreeing
  refine X_iconst (v := 0) rfl rfl (by decide) ?_
  refine X_istore_n rfl rfl rfl rfl ?_
  refine X_iconst (v := 0) rfl rfl (by decide) ?_
  refine X_istore_n rfl rfl rfl rfl ?_
  exact X_sub (g_sub_s (g_sub_s (g_sub_s g_sub_0))) (b_X8_agreeing_b4  _ _ _ _)
def f_X8_told (h : gH) (a0 : Nat) (p1 : Int32) : Option (Int32) :=
  (if p1 = 0 then
    (g_gA h a0 8 8).bind fun v41 =>
    (g_ald h v41 0).bind fun v45 =>
    some v45
  else
    (if p1 = 1 then
      (g_gA h a0 8 8).bind fun v48 =>
      (g_ald h v48 1).bind fun v52 =>
      some v52
    else
      (if p1 = 2 then
        (g_gA h a0 8 8).bind fun v55 =>
        (g_ald h v55 2).bind fun v59 =>
        some v59
      else
        (if p1 = 3 then
          bif g_is h a0 8 then
          (f_X8_inState h a0 0).bind fun v63 =>
          some v63
          else none
        else
          (if p1 = 4 then
            bif g_is h a0 8 then
            (f_X8_inState h a0 2).bind fun v69 =>
            some v69
            else none
          else
            (if p1 = 5 then
              bif g_is h a0 8 then
              (f_X8_agreeing h a0).bind fun v74 =>
              some v74
              else none
            else
              (g_gA h a0 8 8).bind fun v79 =>
              (g_ald h v79 ((3 + p1) - 6)).bind fun v88 =>
              some v88))))))
set_option maxRecDepth 100000 in
theorem ct_X8_told {l : Launch} {G : gG} {h : gH} {a0 : Nat} {p1 : Int32} {r : Int32} (e : f_X8_told h a0 p1 = some r) : Ct l G M_X8_told [.ref a0, .int p1] h (some (.int r)) h := by
  refine Ct_of (L := [some (.ref a0), some (.int p1)]) ok_X8_told (by decide +kernel) rfl rfl rfl (ρ := (g_rI h)) (F := f_X8_told h a0 p1) ?_ e rfl
  unfold f_X8_told
  refine X_iload_n rfl rfl rfl ?_
  refine X_if (fun c1_0 => ?_) (fun c1_0 => ?_)
  · refine X_tswIn (v := 0) (len := 39) (tgt := 40) (off := 39) rfl rfl c1_0 (by decide) (by decide) rfl rfl ?_
    refine X_aload_n rfl rfl rfl ?_
    refine X_getA rfl rfl (fun v41 => ?_)
    refine X_iconst (v := 0) rfl rfl (by decide) ?_
    refine X_ald rfl rfl (fun v45 => ?_)
    exact X_iret rfl rfl rfl rfl rfl rfl rfl
  · refine X_if (fun c1_1 => ?_) (fun c1_1 => ?_)
    · refine X_tswIn (v := 1) (len := 39) (tgt := 47) (off := 46) rfl rfl c1_1 (by decide) (by decide) rfl rfl ?_
      refine X_aload_n rfl rfl rfl ?_
      refine X_getA rfl rfl (fun v48 => ?_)
      refine X_iconst (v := 1) rfl rfl (by decide) ?_
      refine X_ald rfl rfl (fun v52 => ?_)
      exact X_iret rfl rfl rfl rfl rfl rfl rfl
    · refine X_if (fun c1_2 => ?_) (fun c1_2 => ?_)
      · refine X_tswIn (v := 2) (len := 39) (tgt := 54) (off := 53) rfl rfl c1_2 (by decide) (by decide) rfl rfl ?_
        refine X_aload_n rfl rfl rfl ?_
        refine X_getA rfl rfl (fun v55 => ?_)
        refine X_iconst (v := 2) rfl rfl (by decide) ?_
        refine X_ald rfl rfl (fun v59 => ?_)
        exact X_iret rfl rfl rfl rfl rfl rfl rfl
      · refine X_if (fun c1_3 => ?_) (fun c1_3 => ?_)
        · refine X_tswIn (v := 3) (len := 39) (tgt := 61) (off := 60) rfl rfl c1_3 (by decide) (by decide) rfl rfl ?_
          refine X_aload_n rfl rfl rfl ?_
          refine X_iconst (v := 0) rfl rfl (by decide) ?_
          refine X_callV_IR (M' := M_X8_inState) (nA := 1) (As := [.int 0]) (st := []) (b := a0) (ci := 8) rfl rfl (by decide +kernel) rfl rfl rfl rfl rfl rfl rfl rfl (fun _ e => ct_X8_inState e) (fun v63 => ?_)
          exact X_iret rfl rfl rfl rfl rfl rfl rfl
        · refine X_if (fun c1_4 => ?_) (fun c1_4 => ?_)
          · refine X_tswIn (v := 4) (len := 39) (tgt := 67) (off := 66) rfl rfl c1_4 (by decide) (by decide) rfl rfl ?_
            refine X_aload_n rfl rfl rfl ?_
            refine X_iconst (v := 2) rfl rfl (by decide) ?_
            refine X_callV_IR (M' := M_X8_inState) (nA := 1) (As := [.int 2]) (st := []) (b := a0) (ci := 8) rfl rfl (by decide +kernel) rfl rfl rfl rfl rfl rfl rfl rfl (fun _ e => ct_X8_inState e) (fun v69 => ?_)
            exact X_iret rfl rfl rfl rfl rfl rfl rfl
          · refine X_if (fun c1_5 => ?_) (fun c1_5 => ?_)
            · refine X_tswIn (v := 5) (len := 39) (tgt := 73) (off := 72) rfl rfl c1_5 (by decide) (by decide) rfl rfl ?_
              refine X_aload_n rfl rfl rfl ?_
              refine X_callV_IR (M' := M_X8_agreeing) (nA := 0) (As := []) (st := []) (b := a0) (ci := 8) rfl rfl (by decide +kernel) rfl rfl rfl rfl rfl rfl rfl rfl (fun _ e => ct_X8_agreeing e) (fun v74 => ?_)
              exact X_iret rfl rfl rfl rfl rfl rfl rfl
            · refine X_tswOut (len := 39) (tgt := 78) rfl rfl (by have := g_neI c1_0 (show Int32.toInt (0) = 0 by decide) ; have := g_neI c1_1 (show Int32.toInt (1) = 1 by decide) ; have := g_neI c1_2 (show Int32.toInt (2) = 2 by decide) ; have := g_neI c1_3 (show Int32.toInt (3) = 3 by decide) ; have := g_neI c1_4 (show Int32.toInt (4) = 4 by decide) ; have := g_neI c1_5 (show Int32.toInt (5) = 5 by decide); omega) rfl ?_
              refine X_aload_n rfl rfl rfl ?_
              refine X_getA rfl rfl (fun v79 => ?_)
              refine X_iconst (v := 3) rfl rfl (by decide) ?_
              refine X_iload_n rfl rfl rfl ?_
              refine X_iadd rfl rfl ?_
              refine X_bipush (v := 6) rfl rfl (by decide) ?_
              refine X_isub rfl rfl ?_
              refine X_ald rfl rfl (fun v88 => ?_)
              exact X_iret rfl rfl rfl rfl rfl rfl rfl
def f_X8_state_b21 (h : gH) (l0 : Nat) (l1 : Int32) (s0 : Int32) (s1 : Nat) : Option (Int32 × gH) :=
  bif g_is h s1 8 then
  (f_X8_fails h s1 s0 1).bind fun y22 =>
  (if y22.1 = 0 then
    bif g_is y22.2 l0 8 then
    (f_X8_told y22.2 l0 l1).bind fun v34 =>
    some (v34, y22.2)
    else none
  else
    some (0, y22.2))
  else none
def f_X8_state (h : gH) (a0 : Nat) (p1 : Int32) : Option (Int32 × gH) :=
  (g_put h a0 8 0 (.int 0)).bind fun h2 =>
  (if (f_X8_in p1 0 12) = 0 then
    f_X8_state_b21 h2 a0 p1 1 a0
  else
    f_X8_state_b21 h2 a0 p1 0 a0)
set_option maxRecDepth 100000 in
theorem b_X8_state_b21 {l : Launch} {G : gG} (h : gH) (l0 : Nat) (l1 : Int32) (s0 : Int32) (s1 : Nat) : GX l G M_X8_state (g_phi G g_wI (m_R M_X8_state).cells (m_R M_X8_state).slots) 0 0 21 [some (.ref l0), some (.int l1)] [.int s0, .ref s1] h (f_X8_state_b21 h l0 l1 s0 s1) := by
  unfold f_X8_state_b21
  refine X_iconst (v := 1) rfl rfl (by decide) ?_
  refine X_callV_IW (M' := M_X8_fails) (nA := 2) (As := [.int s0, .int 1]) (st := []) (b := s1) (ci := 8) rfl rfl (by decide +kernel) rfl rfl rfl rfl rfl rfl rfl rfl (fun _ _ e => ct_X8_fails e) (fun y22 => ?_)
  refine X_bif_eq rfl rfl (fun _ => ?_) (fun _ => ?_)
  · refine X_aload_n rfl rfl rfl ?_
    refine X_iload_n rfl rfl rfl ?_
    refine X_callV_IR (M' := M_X8_told) (nA := 1) (As := [.int l1]) (st := []) (b := l0) (ci := 8) rfl rfl (by decide +kernel) rfl rfl rfl rfl rfl rfl rfl rfl (fun _ e => ct_X8_told e) (fun v34 => ?_)
    exact X_iret rfl rfl rfl rfl rfl rfl rfl
  · refine X_iconst (v := 0) rfl rfl (by decide) ?_
    refine X_goto rfl rfl ?_
    exact X_iret rfl rfl rfl rfl rfl rfl rfl
set_option maxRecDepth 100000 in
theorem ct_X8_state {l : Launch} {G : gG} {h : gH} {a0 : Nat} {p1 : Int32} {r : Int32} {h1 : gH} (e : f_X8_state h a0 p1 = some (r, h1)) : Ct l G M_X8_state [.ref a0, .int p1] h (some (.int r)) h1 := by
  refine Ct_of (L := [some (.ref a0), some (.int p1)]) ok_X8_state (by decide +kernel) rfl rfl rfl (ρ := g_wI) (F := f_X8_state h a0 p1) ?_ e rfl
  unfold f_X8_state
  refine X_aload_n rfl rfl rfl ?_
  refine X_iconst (v := 0) rfl rfl (by decide) ?_
  refine X_put rfl rfl rfl rfl rfl (fun h2 => ?_)
  refine X_aload_n rfl rfl rfl ?_
  refine X_iload_n rfl rfl rfl ?_
  refine X_iconst (v := 0) rfl rfl (by decide) ?_
  refine X_bipush (v := 12) rfl rfl (by decide) ?_
  refine X_callS_IP (v := f_X8_in p1 0 12) (M' := M_X8_in) (nA := 3) (As := [.int p1, .int 0, .int 12]) (st := [.ref a0]) rfl rfl (by decide +kernel) rfl rfl rfl rfl rfl rfl rfl ct_X8_in ?_
  refine X_bif_ne rfl rfl (fun _ => ?_) (fun _ => ?_)
  · refine X_iconst (v := 1) rfl rfl (by decide) ?_
    refine X_goto rfl rfl ?_
    exact X_sub (g_sub_s (g_sub_s g_sub_0)) (b_X8_state_b21  _ _ _ _ _)
  · refine X_iconst (v := 0) rfl rfl (by decide) ?_
    exact X_sub (g_sub_s (g_sub_s g_sub_0)) (b_X8_state_b21  _ _ _ _ _)
def f_X8_noChannel_b15 (h : gH) (s0 : Int32) (s1 : Nat) : Option (Int32 × gH) :=
  bif g_is h s1 8 then
  (f_X8_fails h s1 s0 1).bind fun y16 =>
  (g_z y16.1).bind fun z => some (y16.1, y16.2)
  else none
def f_X8_noChannel (h : gH) (a0 : Nat) (p1 : Int32) : Option (Int32 × gH) :=
  (if (f_X8_in p1 0 1) = 0 then
    f_X8_noChannel_b15 h 1 a0
  else
    f_X8_noChannel_b15 h 0 a0)
set_option maxRecDepth 100000 in
theorem b_X8_noChannel_b15 {l : Launch} {G : gG} (h : gH) (s0 : Int32) (s1 : Nat) : GX l G M_X8_noChannel (g_phi G g_wI (m_R M_X8_noChannel).cells (m_R M_X8_noChannel).slots) 0 0 15 [none, none] [.int s0, .ref s1] h (f_X8_noChannel_b15 h s0 s1) := by
  unfold f_X8_noChannel_b15
  refine X_iconst (v := 1) rfl rfl (by decide) ?_
  refine X_callV_IW (M' := M_X8_fails) (nA := 2) (As := [.int s0, .int 1]) (st := []) (b := s1) (ci := 8) rfl rfl (by decide +kernel) rfl rfl rfl rfl rfl rfl rfl rfl (fun _ _ e => ct_X8_fails e) (fun y16 => ?_)
  exact X_zret rfl rfl rfl ⟨_, rfl, rfl⟩ rfl rfl
set_option maxRecDepth 100000 in
theorem ct_X8_noChannel {l : Launch} {G : gG} {h : gH} {a0 : Nat} {p1 : Int32} {r : Int32} {h1 : gH} (e : f_X8_noChannel h a0 p1 = some (r, h1)) : Ct l G M_X8_noChannel [.ref a0, .int p1] h (some (.int r)) h1 := by
  refine Ct_of (L := [some (.ref a0), some (.int p1)]) ok_X8_noChannel (by decide +kernel) rfl rfl rfl (ρ := g_wI) (F := f_X8_noChannel h a0 p1) ?_ e rfl
  unfold f_X8_noChannel
  refine X_aload_n rfl rfl rfl ?_
  refine X_iload_n rfl rfl rfl ?_
  refine X_iconst (v := 0) rfl rfl (by decide) ?_
  refine X_iconst (v := 1) rfl rfl (by decide) ?_
  refine X_callS_IP (v := f_X8_in p1 0 1) (M' := M_X8_in) (nA := 3) (As := [.int p1, .int 0, .int 1]) (st := [.ref a0]) rfl rfl (by decide +kernel) rfl rfl rfl rfl rfl rfl rfl ct_X8_in ?_
  refine X_bif_ne rfl rfl (fun _ => ?_) (fun _ => ?_)
  · refine X_iconst (v := 1) rfl rfl (by decide) ?_
    refine X_goto rfl rfl ?_
    exact X_sub (g_sub_n (g_sub_n g_sub_0)) (b_X8_noChannel_b15  _ _ _)
  · refine X_iconst (v := 0) rfl rfl (by decide) ?_
    exact X_sub (g_sub_n (g_sub_n g_sub_0)) (b_X8_noChannel_b15  _ _ _)
def f_X8_noStation_b15 (h : gH) (s0 : Int32) (s1 : Nat) : Option (Int32 × gH) :=
  bif g_is h s1 8 then
  (f_X8_fails h s1 s0 1).bind fun y16 =>
  (g_z y16.1).bind fun z => some (y16.1, y16.2)
  else none
def f_X8_noStation (h : gH) (a0 : Nat) (p1 : Int32) : Option (Int32 × gH) :=
  (if (f_X8_in p1 0 1) = 0 then
    f_X8_noStation_b15 h 1 a0
  else
    f_X8_noStation_b15 h 0 a0)
set_option maxRecDepth 100000 in
theorem b_X8_noStation_b15 {l : Launch} {G : gG} (h : gH) (s0 : Int32) (s1 : Nat) : GX l G M_X8_noStation (g_phi G g_wI (m_R M_X8_noStation).cells (m_R M_X8_noStation).slots) 0 0 15 [none, none] [.int s0, .ref s1] h (f_X8_noStation_b15 h s0 s1) := by
  unfold f_X8_noStation_b15
  refine X_iconst (v := 1) rfl rfl (by decide) ?_
  refine X_callV_IW (M' := M_X8_fails) (nA := 2) (As := [.int s0, .int 1]) (st := []) (b := s1) (ci := 8) rfl rfl (by decide +kernel) rfl rfl rfl rfl rfl rfl rfl rfl (fun _ _ e => ct_X8_fails e) (fun y16 => ?_)
  exact X_zret rfl rfl rfl ⟨_, rfl, rfl⟩ rfl rfl
set_option maxRecDepth 100000 in
theorem ct_X8_noStation {l : Launch} {G : gG} {h : gH} {a0 : Nat} {p1 : Int32} {r : Int32} {h1 : gH} (e : f_X8_noStation h a0 p1 = some (r, h1)) : Ct l G M_X8_noStation [.ref a0, .int p1] h (some (.int r)) h1 := by
  refine Ct_of (L := [some (.ref a0), some (.int p1)]) ok_X8_noStation (by decide +kernel) rfl rfl rfl (ρ := g_wI) (F := f_X8_noStation h a0 p1) ?_ e rfl
  unfold f_X8_noStation
  refine X_aload_n rfl rfl rfl ?_
  refine X_iload_n rfl rfl rfl ?_
  refine X_iconst (v := 0) rfl rfl (by decide) ?_
  refine X_iconst (v := 1) rfl rfl (by decide) ?_
  refine X_callS_IP (v := f_X8_in p1 0 1) (M' := M_X8_in) (nA := 3) (As := [.int p1, .int 0, .int 1]) (st := [.ref a0]) rfl rfl (by decide +kernel) rfl rfl rfl rfl rfl rfl rfl ct_X8_in ?_
  refine X_bif_ne rfl rfl (fun _ => ?_) (fun _ => ?_)
  · refine X_iconst (v := 1) rfl rfl (by decide) ?_
    refine X_goto rfl rfl ?_
    exact X_sub (g_sub_n (g_sub_n g_sub_0)) (b_X8_noStation_b15  _ _ _)
  · refine X_iconst (v := 0) rfl rfl (by decide) ?_
    exact X_sub (g_sub_n (g_sub_n g_sub_0)) (b_X8_noStation_b15  _ _ _)
