def f_X6_clear (h : gH) (a0 : Nat) (p1 : Int32) (p2 : Int32) : Option gH :=
  (g_put h a0 6 0 (.int 0)).bind fun h2 =>
  (g_put h2 a0 6 1 (.int 0)).bind fun h7 =>
  (g_put h7 a0 6 2 (.int (-1))).bind fun h12 =>
  (g_put h12 a0 6 3 (.int p1)).bind fun h17 =>
  (g_put h17 a0 6 4 (.int p2)).bind fun h22 =>
  (g_put h22 a0 6 5 (.int 0)).bind fun h27 =>
  (g_put h27 a0 6 6 (.int 0)).bind fun h32 =>
  (g_put h32 a0 6 7 (.int 0)).bind fun h37 =>
  (g_put h37 a0 6 8 (.int 0)).bind fun h42 =>
  (g_gA h42 a0 6 11).bind fun v46 =>
  bif g_is h42 v46 0 then
  (f_X0_clear h42 v46).bind fun h49 =>
  (g_gA h49 a0 6 12).bind fun v53 =>
  bif g_is h49 v53 0 then
  (f_X0_clear h49 v53).bind fun h56 =>
  (g_gA h56 a0 6 13).bind fun v60 =>
  (g_put h56 v60 2 0 (.int 0)).bind fun h64 =>
  (g_gA h64 a0 6 14).bind fun v68 =>
  (g_put h64 v68 2 0 (.int 0)).bind fun h72 =>
  (g_gA h72 a0 6 15).bind fun v76 =>
  (g_put h72 v76 4 0 (.int 0)).bind fun h80 =>
  some h80
  else none
  else none
set_option maxRecDepth 100000 in
theorem ct_X6_clear {l : Launch} {G : gG} {h : gH} {a0 : Nat} {p1 : Int32} {p2 : Int32} {h1 : gH} (e : f_X6_clear h a0 p1 p2 = some h1) : Ct l G M_X6_clear [.ref a0, .int p1, .int p2] h none h1 := by
  refine Ct_of (L := [some (.ref a0), some (.int p1), some (.int p2)]) ok_X6_clear (by decide +kernel) rfl rfl rfl (ρ := g_wU) (F := f_X6_clear h a0 p1 p2) ?_ e rfl
  unfold f_X6_clear
  refine X_aload_n rfl rfl rfl ?_
  refine X_iconst (v := 0) rfl rfl (by decide) ?_
  refine X_put rfl rfl rfl rfl rfl (fun h2 => ?_)
  refine X_aload_n rfl rfl rfl ?_
  refine X_iconst (v := 0) rfl rfl (by decide) ?_
  refine X_put rfl rfl rfl rfl rfl (fun h7 => ?_)
  refine X_aload_n rfl rfl rfl ?_
  refine X_iconst (v := -1) rfl rfl (by decide) ?_
  refine X_put rfl rfl rfl rfl rfl (fun h12 => ?_)
  refine X_aload_n rfl rfl rfl ?_
  refine X_iload_n rfl rfl rfl ?_
  refine X_put rfl rfl rfl rfl rfl (fun h17 => ?_)
  refine X_aload_n rfl rfl rfl ?_
  refine X_iload_n rfl rfl rfl ?_
  refine X_put rfl rfl rfl rfl rfl (fun h22 => ?_)
  refine X_aload_n rfl rfl rfl ?_
  refine X_iconst (v := 0) rfl rfl (by decide) ?_
  refine X_put rfl rfl rfl rfl rfl (fun h27 => ?_)
  refine X_aload_n rfl rfl rfl ?_
  refine X_iconst (v := 0) rfl rfl (by decide) ?_
  refine X_put rfl rfl rfl rfl rfl (fun h32 => ?_)
  refine X_aload_n rfl rfl rfl ?_
  refine X_iconst (v := 0) rfl rfl (by decide) ?_
  refine X_put rfl rfl rfl rfl rfl (fun h37 => ?_)
  refine X_aload_n rfl rfl rfl ?_
  refine X_iconst (v := 0) rfl rfl (by decide) ?_
  refine X_put rfl rfl rfl rfl rfl (fun h42 => ?_)
  refine X_aload_n rfl rfl rfl ?_
  refine X_getA rfl rfl (fun v46 => ?_)
  refine X_callV_UW (M' := M_X0_clear) (nA := 0) (As := []) (st := []) (b := v46) (ci := 0) rfl rfl (by decide +kernel) rfl rfl rfl rfl rfl rfl rfl rfl (fun _ e => ct_X0_clear e) (fun h49 => ?_)
  refine X_aload_n rfl rfl rfl ?_
  refine X_getA rfl rfl (fun v53 => ?_)
  refine X_callV_UW (M' := M_X0_clear) (nA := 0) (As := []) (st := []) (b := v53) (ci := 0) rfl rfl (by decide +kernel) rfl rfl rfl rfl rfl rfl rfl rfl (fun _ e => ct_X0_clear e) (fun h56 => ?_)
  refine X_aload_n rfl rfl rfl ?_
  refine X_getA rfl rfl (fun v60 => ?_)
  refine X_iconst (v := 0) rfl rfl (by decide) ?_
  refine X_put rfl rfl rfl rfl rfl (fun h64 => ?_)
  refine X_aload_n rfl rfl rfl ?_
  refine X_getA rfl rfl (fun v68 => ?_)
  refine X_iconst (v := 0) rfl rfl (by decide) ?_
  refine X_put rfl rfl rfl rfl rfl (fun h72 => ?_)
  refine X_aload_n rfl rfl rfl ?_
  refine X_getA rfl rfl (fun v76 => ?_)
  refine X_iconst (v := 0) rfl rfl (by decide) ?_
  refine X_put rfl rfl rfl rfl rfl (fun h80 => ?_)
  exact X_vret rfl rfl rfl rfl rfl rfl
def f_X6_messageNumbered_b23 (h : gH) (l0 : Nat) (s0 : Option Nat) : Option (Nat) :=
  (Option.elim s0
    ((g_gA h l0 6 10).bind fun v29 =>
    some v29)
    (fun a25 =>
      some a25))
def f_X6_messageNumbered_b22 (h : gH) (l0 : Nat) : Option (Nat) :=
  f_X6_messageNumbered_b23 h l0 none
def f_X6_messageNumbered (h : gH) (a0 : Nat) (p1 : Int32) : Option (Nat) :=
  (if 0 ≤ p1 then
    (g_gA h a0 6 9).bind fun v6 =>
    (g_aln h v6).bind fun v9 =>
    (if p1 < v9 then
      (g_gA h a0 6 9).bind fun v14 =>
      (g_qld h v14 4 p1).bind fun v18 =>
      f_X6_messageNumbered_b23 h a0 v18
    else
      f_X6_messageNumbered_b22 h a0)
  else
    f_X6_messageNumbered_b22 h a0)
set_option maxRecDepth 100000 in
theorem b_X6_messageNumbered_b23 {l : Launch} {G : gG} {h : gH} (l0 : Nat) (s0 : Option Nat) : GX l G M_X6_messageNumbered (g_phi G (g_rA h) (m_R M_X6_messageNumbered).cells (m_R M_X6_messageNumbered).slots) 0 0 23 [some (.ref l0), none, none] [va_rf s0] h (f_X6_messageNumbered_b23 h l0 s0) := by
  unfold f_X6_messageNumbered_b23
  refine X_astoreQ_n (x := s0) rfl rfl rfl rfl ?_
  refine X_aloadQ_n (x := s0) rfl rfl rfl ?_
  refine X_bnonnull rfl rfl (fun _ => ?_) (fun a25 e25 => ?_)
  · refine X_aload_n rfl rfl rfl ?_
    refine X_getA rfl rfl (fun v29 => ?_)
    refine X_goto rfl rfl ?_
    exact X_aretA rfl rfl rfl rfl rfl rfl
  · subst e25
    refine X_aload_n rfl rfl rfl ?_
    exact X_aretA rfl rfl rfl rfl rfl rfl
set_option maxRecDepth 100000 in
theorem b_X6_messageNumbered_b22 {l : Launch} {G : gG} {h : gH} (l0 : Nat) : GX l G M_X6_messageNumbered (g_phi G (g_rA h) (m_R M_X6_messageNumbered).cells (m_R M_X6_messageNumbered).slots) 0 0 22 [some (.ref l0), none, none] [] h (f_X6_messageNumbered_b22 h l0) := by
  unfold f_X6_messageNumbered_b22
  refine X_null rfl rfl ?_
  refine X_rfl (st' := va_rf none :: []) rfl ?_
  exact X_sub (g_sub_s (g_sub_n (g_sub_n g_sub_0))) (b_X6_messageNumbered_b23  _ _)
set_option maxRecDepth 100000 in
theorem ct_X6_messageNumbered {l : Launch} {G : gG} {h : gH} {a0 : Nat} {p1 : Int32} {r : Nat} (e : f_X6_messageNumbered h a0 p1 = some r) : Ct l G M_X6_messageNumbered [.ref a0, .int p1] h (some (.ref r)) h := by
  refine Ct_of (L := [some (.ref a0), some (.int p1), none]) ok_X6_messageNumbered (by decide +kernel) rfl rfl rfl (ρ := (g_rA h)) (F := f_X6_messageNumbered h a0 p1) ?_ e rfl
  unfold f_X6_messageNumbered
  refine X_iload_n rfl rfl rfl ?_
  refine X_bif_lt rfl rfl (fun _ => ?_) (fun _ => ?_)
  · refine X_iload_n rfl rfl rfl ?_
    refine X_aload_n rfl rfl rfl ?_
    refine X_getA rfl rfl (fun v6 => ?_)
    refine X_aln rfl rfl (fun v9 => ?_)
    refine X_bicmp_ge rfl rfl (fun _ => ?_) (fun _ => ?_)
    · refine X_aload_n rfl rfl rfl ?_
      refine X_getA rfl rfl (fun v14 => ?_)
      refine X_iload_n rfl rfl rfl ?_
      refine X_qld (t := 4) rfl rfl (by simp) (fun v18 => ?_)
      refine X_goto rfl rfl ?_
      exact X_sub (g_sub_s (g_sub_n (g_sub_n g_sub_0))) (b_X6_messageNumbered_b23  _ _)
    · exact X_sub (g_sub_s (g_sub_n (g_sub_n g_sub_0))) (b_X6_messageNumbered_b22  _)
  · exact X_sub (g_sub_s (g_sub_n (g_sub_n g_sub_0))) (b_X6_messageNumbered_b22  _)
def f_X6_copyFrom_b74 : Nat → gH → Nat → Nat → Int32 → Option gH
  | 0, _, _, _, _ => none
  | n + 1, h, l0, l1, l2 =>
    (g_gI h l0 6 1).bind fun v76 =>
    (if l2 < v76 then
      bif g_is h l0 6 then
      (f_X6_messageNumbered h l0 l2).bind fun v84 =>
      bif g_is h l1 6 then
      (f_X6_messageNumbered h l1 l2).bind fun v89 =>
      bif g_is h v84 3 then
      (f_X3_copyFrom h v84 v89).bind fun h92 =>
      f_X6_copyFrom_b74  n h92 l0 l1 (l2 + 1)
      else none
      else none
      else none
    else
      (g_gA h l0 6 11).bind fun v102 =>
      (g_gA h l1 6 11).bind fun v106 =>
      bif g_is h v102 0 then
      (f_X0_copyFrom h v102 v106).bind fun h109 =>
      (g_gA h109 l0 6 12).bind fun v113 =>
      (g_gA h109 l1 6 12).bind fun v117 =>
      bif g_is h109 v113 0 then
      (f_X0_copyFrom h109 v113 v117).bind fun h120 =>
      (g_gA h120 l0 6 13).bind fun v124 =>
      (g_gA h120 l1 6 13).bind fun v128 =>
      bif g_is h120 v124 2 then
      (f_X2_copyFrom h120 v124 v128).bind fun h131 =>
      (g_gA h131 l0 6 14).bind fun v135 =>
      (g_gA h131 l1 6 14).bind fun v139 =>
      bif g_is h131 v135 2 then
      (f_X2_copyFrom h131 v135 v139).bind fun h142 =>
      (g_gA h142 l0 6 15).bind fun v146 =>
      (g_gA h142 l1 6 15).bind fun v150 =>
      bif g_is h142 v146 4 then
      (f_X4_copyFrom h142 v146 v150).bind fun h153 =>
      some h153
      else none
      else none
      else none
      else none
      else none)
def f_X6_copyFrom (h : gH) (a0 : Nat) (p1 : Nat) : Option gH :=
  (g_gI h p1 6 0).bind fun v2 =>
  (g_put h a0 6 0 (.int v2)).bind fun h5 =>
  (g_gI h5 p1 6 1).bind fun v10 =>
  (g_put h5 a0 6 1 (.int v10)).bind fun h13 =>
  (g_gI h13 p1 6 2).bind fun v18 =>
  (g_put h13 a0 6 2 (.int v18)).bind fun h21 =>
  (g_gI h21 p1 6 3).bind fun v26 =>
  (g_put h21 a0 6 3 (.int v26)).bind fun h29 =>
  (g_gI h29 p1 6 4).bind fun v34 =>
  (g_put h29 a0 6 4 (.int v34)).bind fun h37 =>
  (g_gI h37 p1 6 5).bind fun v42 =>
  (g_put h37 a0 6 5 (.int v42)).bind fun h45 =>
  (g_gI h45 p1 6 6).bind fun v50 =>
  (g_put h45 a0 6 6 (.int v50)).bind fun h53 =>
  (g_gI h53 p1 6 7).bind fun v58 =>
  (g_put h53 a0 6 7 (.int v58)).bind fun h61 =>
  (g_gI h61 p1 6 8).bind fun v66 =>
  (g_put h61 a0 6 8 (.int v66)).bind fun h69 =>
  f_X6_copyFrom_b74 g_N h69 a0 p1 0
set_option maxRecDepth 100000 in
theorem b_X6_copyFrom_b74 {l : Launch} {G : gG} : ∀ (n : Nat) (h : gH) (l0 : Nat) (l1 : Nat) (l2 : Int32), GX l G M_X6_copyFrom (g_phi G g_wU (m_R M_X6_copyFrom).cells (m_R M_X6_copyFrom).slots) 0 0 74 [some (.ref l0), some (.ref l1), some (.int l2)] [] h (f_X6_copyFrom_b74 n h l0 l1 l2) := by
  intro n
  induction n with
  | zero => intros; exact X_none
  | succ n ih =>
    intro h l0 l1 l2
    rw [f_X6_copyFrom_b74]
    refine X_iload_n rfl rfl rfl ?_
    refine X_aload_n rfl rfl rfl ?_
    refine X_getI rfl rfl (fun v76 => ?_)
    refine X_bicmp_ge rfl rfl (fun _ => ?_) (fun _ => ?_)
    · refine X_aload_n rfl rfl rfl ?_
      refine X_iload_n rfl rfl rfl ?_
      refine X_callV_AR (M' := M_X6_messageNumbered) (nA := 1) (As := [.int l2]) (st := []) (b := l0) (ci := 6) rfl rfl (by decide +kernel) rfl rfl rfl rfl rfl rfl rfl rfl (fun _ e => ct_X6_messageNumbered e) (fun v84 => ?_)
      refine X_aload_n rfl rfl rfl ?_
      refine X_iload_n rfl rfl rfl ?_
      refine X_callV_AR (M' := M_X6_messageNumbered) (nA := 1) (As := [.int l2]) (st := [.ref v84]) (b := l1) (ci := 6) rfl rfl (by decide +kernel) rfl rfl rfl rfl rfl rfl rfl rfl (fun _ e => ct_X6_messageNumbered e) (fun v89 => ?_)
      refine X_callV_UW (M' := M_X3_copyFrom) (nA := 1) (As := [.ref v89]) (st := []) (b := v84) (ci := 3) rfl rfl (by decide +kernel) rfl rfl rfl rfl rfl rfl rfl rfl (fun _ e => ct_X3_copyFrom e) (fun h92 => ?_)
      refine X_iinc (v := l2 + 1) rfl rfl rfl (congrArg (fun z => l2 + z) (by decide : Int32.ofInt 1 = 1)) rfl ?_
      refine X_goto rfl rfl ?_
      exact X_sub (g_sub_s (g_sub_s (g_sub_s g_sub_0))) (ih _ _ _ _)
    · refine X_aload_n rfl rfl rfl ?_
      refine X_getA rfl rfl (fun v102 => ?_)
      refine X_aload_n rfl rfl rfl ?_
      refine X_getA rfl rfl (fun v106 => ?_)
      refine X_callV_UW (M' := M_X0_copyFrom) (nA := 1) (As := [.ref v106]) (st := []) (b := v102) (ci := 0) rfl rfl (by decide +kernel) rfl rfl rfl rfl rfl rfl rfl rfl (fun _ e => ct_X0_copyFrom e) (fun h109 => ?_)
      refine X_aload_n rfl rfl rfl ?_
      refine X_getA rfl rfl (fun v113 => ?_)
      refine X_aload_n rfl rfl rfl ?_
      refine X_getA rfl rfl (fun v117 => ?_)
      refine X_callV_UW (M' := M_X0_copyFrom) (nA := 1) (As := [.ref v117]) (st := []) (b := v113) (ci := 0) rfl rfl (by decide +kernel) rfl rfl rfl rfl rfl rfl rfl rfl (fun _ e => ct_X0_copyFrom e) (fun h120 => ?_)
      refine X_aload_n rfl rfl rfl ?_
      refine X_getA rfl rfl (fun v124 => ?_)
      refine X_aload_n rfl rfl rfl ?_
      refine X_getA rfl rfl (fun v128 => ?_)
      refine X_callV_UW (M' := M_X2_copyFrom) (nA := 1) (As := [.ref v128]) (st := []) (b := v124) (ci := 2) rfl rfl (by decide +kernel) rfl rfl rfl rfl rfl rfl rfl rfl (fun _ e => ct_X2_copyFrom e) (fun h131 => ?_)
      refine X_aload_n rfl rfl rfl ?_
      refine X_getA rfl rfl (fun v135 => ?_)
      refine X_aload_n rfl rfl rfl ?_
      refine X_getA rfl rfl (fun v139 => ?_)
      refine X_callV_UW (M' := M_X2_copyFrom) (nA := 1) (As := [.ref v139]) (st := []) (b := v135) (ci := 2) rfl rfl (by decide +kernel) rfl rfl rfl rfl rfl rfl rfl rfl (fun _ e => ct_X2_copyFrom e) (fun h142 => ?_)
      refine X_aload_n rfl rfl rfl ?_
      refine X_getA rfl rfl (fun v146 => ?_)
      refine X_aload_n rfl rfl rfl ?_
      refine X_getA rfl rfl (fun v150 => ?_)
      refine X_callV_UW (M' := M_X4_copyFrom) (nA := 1) (As := [.ref v150]) (st := []) (b := v146) (ci := 4) rfl rfl (by decide +kernel) rfl rfl rfl rfl rfl rfl rfl rfl (fun _ e => ct_X4_copyFrom e) (fun h153 => ?_)
      exact X_vret rfl rfl rfl rfl rfl rfl
set_option maxRecDepth 100000 in
theorem ct_X6_copyFrom {l : Launch} {G : gG} {h : gH} {a0 : Nat} {p1 : Nat} {h1 : gH} (e : f_X6_copyFrom h a0 p1 = some h1) : Ct l G M_X6_copyFrom [.ref a0, .ref p1] h none h1 := by
  refine Ct_of (L := [some (.ref a0), some (.ref p1), none]) ok_X6_copyFrom (by decide +kernel) rfl rfl rfl (ρ := g_wU) (F := f_X6_copyFrom h a0 p1) ?_ e rfl
  unfold f_X6_copyFrom
  refine X_aload_n rfl rfl rfl ?_
  refine X_aload_n rfl rfl rfl ?_
  refine X_getI rfl rfl (fun v2 => ?_)
  refine X_put rfl rfl rfl rfl rfl (fun h5 => ?_)
  refine X_aload_n rfl rfl rfl ?_
  refine X_aload_n rfl rfl rfl ?_
  refine X_getI rfl rfl (fun v10 => ?_)
  refine X_put rfl rfl rfl rfl rfl (fun h13 => ?_)
  refine X_aload_n rfl rfl rfl ?_
  refine X_aload_n rfl rfl rfl ?_
  refine X_getI rfl rfl (fun v18 => ?_)
  refine X_put rfl rfl rfl rfl rfl (fun h21 => ?_)
  refine X_aload_n rfl rfl rfl ?_
  refine X_aload_n rfl rfl rfl ?_
  refine X_getI rfl rfl (fun v26 => ?_)
  refine X_put rfl rfl rfl rfl rfl (fun h29 => ?_)
  refine X_aload_n rfl rfl rfl ?_
  refine X_aload_n rfl rfl rfl ?_
  refine X_getI rfl rfl (fun v34 => ?_)
  refine X_put rfl rfl rfl rfl rfl (fun h37 => ?_)
  refine X_aload_n rfl rfl rfl ?_
  refine X_aload_n rfl rfl rfl ?_
  refine X_getI rfl rfl (fun v42 => ?_)
  refine X_put rfl rfl rfl rfl rfl (fun h45 => ?_)
  refine X_aload_n rfl rfl rfl ?_
  refine X_aload_n rfl rfl rfl ?_
  refine X_getI rfl rfl (fun v50 => ?_)
  refine X_put rfl rfl rfl rfl rfl (fun h53 => ?_)
  refine X_aload_n rfl rfl rfl ?_
  refine X_aload_n rfl rfl rfl ?_
  refine X_getI rfl rfl (fun v58 => ?_)
  refine X_put rfl rfl rfl rfl rfl (fun h61 => ?_)
  refine X_aload_n rfl rfl rfl ?_
  refine X_aload_n rfl rfl rfl ?_
  refine X_getI rfl rfl (fun v66 => ?_)
  refine X_put rfl rfl rfl rfl rfl (fun h69 => ?_)
  refine X_iconst (v := 0) rfl rfl (by decide) ?_
  refine X_istore_n rfl rfl rfl rfl ?_
  exact X_sub (g_sub_s (g_sub_s (g_sub_s g_sub_0))) (b_X6_copyFrom_b74  _ _ _ _ _)
def f_X6_hasMessage (h : gH) (a0 : Nat) (p1 : Int32) : Option (Int32) :=
  (if 0 ≤ p1 then
    (g_gI h a0 6 1).bind fun v6 =>
    (if p1 < v6 then
      some 1
    else
      some 0)
  else
    some 0)
set_option maxRecDepth 100000 in
theorem ct_X6_hasMessage {l : Launch} {G : gG} {h : gH} {a0 : Nat} {p1 : Int32} {r : Int32} (e : f_X6_hasMessage h a0 p1 = some r) : Ct l G M_X6_hasMessage [.ref a0, .int p1] h (some (.int r)) h := by
  refine Ct_of (L := [some (.ref a0), some (.int p1)]) ok_X6_hasMessage (by decide +kernel) rfl rfl rfl (ρ := (g_rI h)) (F := f_X6_hasMessage h a0 p1) ?_ e rfl
  unfold f_X6_hasMessage
  refine X_iload_n rfl rfl rfl ?_
  refine X_bif_lt rfl rfl (fun _ => ?_) (fun _ => ?_)
  · refine X_iload_n rfl rfl rfl ?_
    refine X_aload_n rfl rfl rfl ?_
    refine X_getI rfl rfl (fun v6 => ?_)
    refine X_bicmp_ge rfl rfl (fun _ => ?_) (fun _ => ?_)
    · refine X_iconst (v := 1) rfl rfl (by decide) ?_
      refine X_goto rfl rfl ?_
      exact X_iret rfl rfl rfl rfl rfl rfl rfl
    · refine X_iconst (v := 0) rfl rfl (by decide) ?_
      exact X_iret rfl rfl rfl rfl rfl rfl rfl
  · refine X_iconst (v := 0) rfl rfl (by decide) ?_
    exact X_iret rfl rfl rfl rfl rfl rfl rfl
def f_X6_channelNumbered (h : gH) (a0 : Nat) (p1 : Int32) : Option (Nat) :=
  (if p1 = 0 then
    (g_gA h a0 6 11).bind fun v5 =>
    some v5
  else
    (g_gA h a0 6 12).bind fun v12 =>
    some v12)
set_option maxRecDepth 100000 in
theorem ct_X6_channelNumbered {l : Launch} {G : gG} {h : gH} {a0 : Nat} {p1 : Int32} {r : Nat} (e : f_X6_channelNumbered h a0 p1 = some r) : Ct l G M_X6_channelNumbered [.ref a0, .int p1] h (some (.ref r)) h := by
  refine Ct_of (L := [some (.ref a0), some (.int p1)]) ok_X6_channelNumbered (by decide +kernel) rfl rfl rfl (ρ := (g_rA h)) (F := f_X6_channelNumbered h a0 p1) ?_ e rfl
  unfold f_X6_channelNumbered
  refine X_iload_n rfl rfl rfl ?_
  refine X_bif_ne rfl rfl (fun _ => ?_) (fun _ => ?_)
  · refine X_aload_n rfl rfl rfl ?_
    refine X_getA rfl rfl (fun v5 => ?_)
    refine X_goto rfl rfl ?_
    exact X_aretA rfl rfl rfl rfl rfl rfl
  · refine X_aload_n rfl rfl rfl ?_
    refine X_getA rfl rfl (fun v12 => ?_)
    exact X_aretA rfl rfl rfl rfl rfl rfl
def f_X6_keepersOf (h : gH) (a0 : Nat) (p1 : Int32) : Option (Nat) :=
  (if p1 = 0 then
    (g_gA h a0 6 13).bind fun v5 =>
    some v5
  else
    (g_gA h a0 6 14).bind fun v12 =>
    some v12)
set_option maxRecDepth 100000 in
theorem ct_X6_keepersOf {l : Launch} {G : gG} {h : gH} {a0 : Nat} {p1 : Int32} {r : Nat} (e : f_X6_keepersOf h a0 p1 = some r) : Ct l G M_X6_keepersOf [.ref a0, .int p1] h (some (.ref r)) h := by
  refine Ct_of (L := [some (.ref a0), some (.int p1)]) ok_X6_keepersOf (by decide +kernel) rfl rfl rfl (ρ := (g_rA h)) (F := f_X6_keepersOf h a0 p1) ?_ e rfl
  unfold f_X6_keepersOf
  refine X_iload_n rfl rfl rfl ?_
  refine X_bif_ne rfl rfl (fun _ => ?_) (fun _ => ?_)
  · refine X_aload_n rfl rfl rfl ?_
    refine X_getA rfl rfl (fun v5 => ?_)
    refine X_goto rfl rfl ?_
    exact X_aretA rfl rfl rfl rfl rfl rfl
  · refine X_aload_n rfl rfl rfl ?_
    refine X_getA rfl rfl (fun v12 => ?_)
    exact X_aretA rfl rfl rfl rfl rfl rfl
def f_X6_addMessage (h : gH) (a0 : Nat) (p1 : Int32) (p2 : Int32) (p3 : Nat) (p4 : Int32) (p5 : Int32) : Option gH :=
  (g_gI h a0 6 1).bind fun v1 =>
  (if v1 < 8 then
    (g_gI h a0 6 1).bind fun v11 =>
    bif g_is h a0 6 then
    (f_X6_messageNumbered h a0 v11).bind fun v14 =>
    (g_gI h a0 6 3).bind fun v20 =>
    bif g_is h v14 3 then
    (f_X3_become h v14 p1 p2 v20).bind fun h23 =>
    (g_gI h23 a0 6 1).bind fun v28 =>
    bif g_is h23 a0 6 then
    (f_X6_messageNumbered h23 a0 v28).bind fun v31 =>
    bif g_is h23 v31 3 then
    (f_X3_takeLetters h23 v31 p3 p4 p5).bind fun h39 =>
    (g_gI h39 a0 6 1).bind fun v44 =>
    (g_put h39 a0 6 1 (.int (v44 + 1))).bind fun h49 =>
    some h49
    else none
    else none
    else none
    else none
  else
    some h)
set_option maxRecDepth 100000 in
theorem ct_X6_addMessage {l : Launch} {G : gG} {h : gH} {a0 : Nat} {p1 : Int32} {p2 : Int32} {p3 : Nat} {p4 : Int32} {p5 : Int32} {h1 : gH} (e : f_X6_addMessage h a0 p1 p2 p3 p4 p5 = some h1) : Ct l G M_X6_addMessage [.ref a0, .int p1, .int p2, .ref p3, .int p4, .int p5] h none h1 := by
  refine Ct_of (L := [some (.ref a0), some (.int p1), some (.int p2), some (.ref p3), some (.int p4), some (.int p5)]) ok_X6_addMessage (by decide +kernel) rfl rfl rfl (ρ := g_wU) (F := f_X6_addMessage h a0 p1 p2 p3 p4 p5) ?_ e rfl
  unfold f_X6_addMessage
  refine X_aload_n rfl rfl rfl ?_
  refine X_getI rfl rfl (fun v1 => ?_)
  refine X_bipush (v := 8) rfl rfl (by decide) ?_
  refine X_bicmp_ge rfl rfl (fun _ => ?_) (fun _ => ?_)
  · refine X_aload_n rfl rfl rfl ?_
    refine X_aload_n rfl rfl rfl ?_
    refine X_getI rfl rfl (fun v11 => ?_)
    refine X_callV_AR (M' := M_X6_messageNumbered) (nA := 1) (As := [.int v11]) (st := []) (b := a0) (ci := 6) rfl rfl (by decide +kernel) rfl rfl rfl rfl rfl rfl rfl rfl (fun _ e => ct_X6_messageNumbered e) (fun v14 => ?_)
    refine X_iload_n rfl rfl rfl ?_
    refine X_iload_n rfl rfl rfl ?_
    refine X_aload_n rfl rfl rfl ?_
    refine X_getI rfl rfl (fun v20 => ?_)
    refine X_callV_UW (M' := M_X3_become) (nA := 3) (As := [.int p1, .int p2, .int v20]) (st := []) (b := v14) (ci := 3) rfl rfl (by decide +kernel) rfl rfl rfl rfl rfl rfl rfl rfl (fun _ e => ct_X3_become e) (fun h23 => ?_)
    refine X_aload_n rfl rfl rfl ?_
    refine X_aload_n rfl rfl rfl ?_
    refine X_getI rfl rfl (fun v28 => ?_)
    refine X_callV_AR (M' := M_X6_messageNumbered) (nA := 1) (As := [.int v28]) (st := []) (b := a0) (ci := 6) rfl rfl (by decide +kernel) rfl rfl rfl rfl rfl rfl rfl rfl (fun _ e => ct_X6_messageNumbered e) (fun v31 => ?_)
    refine X_aload_n rfl rfl rfl ?_
    refine X_iload rfl rfl rfl ?_
    refine X_iload rfl rfl rfl ?_
    refine X_callV_UW (M' := M_X3_takeLetters) (nA := 3) (As := [.ref p3, .int p4, .int p5]) (st := []) (b := v31) (ci := 3) rfl rfl (by decide +kernel) rfl rfl rfl rfl rfl rfl rfl rfl (fun _ e => ct_X3_takeLetters e) (fun h39 => ?_)
    refine X_aload_n rfl rfl rfl ?_
    refine X_dup rfl rfl rfl ?_
    refine X_getI rfl rfl (fun v44 => ?_)
    refine X_iconst (v := 1) rfl rfl (by decide) ?_
    refine X_iadd rfl rfl ?_
    refine X_put rfl rfl rfl rfl rfl (fun h49 => ?_)
    exact X_vret rfl rfl rfl rfl rfl rfl
  · exact X_vret rfl rfl rfl rfl rfl rfl
def f_X6_messagesIn_b27 (h : gH) (K4 : Nat → Int32 → Int32 → Int32 → Option (Int32)) (l0 : Nat) (l1 : Int32) (l2 : Int32) (l3 : Int32) : Option (Int32) :=
  K4 l0 l1 l2 (l3 + 1)
def f_X6_messagesIn_b4 (h : gH) : Nat → Nat → Int32 → Int32 → Int32 → Option (Int32)
  | 0, _, _, _, _ => none
  | n + 1, l0, l1, l2, l3 =>
    (g_gI h l0 6 1).bind fun v6 =>
    (if l3 < v6 then
      bif g_is h l0 6 then
      (f_X6_messageNumbered h l0 l3).bind fun v14 =>
      (g_gI h v14 3 5).bind fun v17 =>
      (if v17 = l1 then
        f_X6_messagesIn_b27 h (f_X6_messagesIn_b4 h n) l0 l1 (l2 + 1) l3
      else
        f_X6_messagesIn_b27 h (f_X6_messagesIn_b4 h n) l0 l1 l2 l3)
      else none
    else
      some l2)
def f_X6_messagesIn (h : gH) (a0 : Nat) (p1 : Int32) : Option (Int32) :=
  f_X6_messagesIn_b4 h g_N a0 p1 0 0
set_option maxRecDepth 100000 in
theorem b_X6_messagesIn_b27 {l : Launch} {G : gG} {h : gH} {K4 : Nat → Int32 → Int32 → Int32 → Option (Int32)} (hK4 : ∀ (l0 : Nat) (l1 : Int32) (l2 : Int32) (l3 : Int32), GX l G M_X6_messagesIn (g_phi G (g_rI h) (m_R M_X6_messagesIn).cells (m_R M_X6_messagesIn).slots) 0 0 4 [some (.ref l0), some (.int l1), some (.int l2), some (.int l3)] [] h (K4 l0 l1 l2 l3)) (l0 : Nat) (l1 : Int32) (l2 : Int32) (l3 : Int32) : GX l G M_X6_messagesIn (g_phi G (g_rI h) (m_R M_X6_messagesIn).cells (m_R M_X6_messagesIn).slots) 0 0 27 [some (.ref l0), some (.int l1), some (.int l2), some (.int l3)] [] h (f_X6_messagesIn_b27 h K4 l0 l1 l2 l3) := by
  unfold f_X6_messagesIn_b27
  refine X_iinc (v := l3 + 1) rfl rfl rfl (congrArg (fun z => l3 + z) (by decide : Int32.ofInt 1 = 1)) rfl ?_
  refine X_goto rfl rfl ?_
  exact X_sub (g_sub_s (g_sub_s (g_sub_s (g_sub_s g_sub_0)))) (hK4 _ _ _ _)
set_option maxRecDepth 100000 in
theorem b_X6_messagesIn_b4 {l : Launch} {G : gG} {h : gH} : ∀ (n : Nat) (l0 : Nat) (l1 : Int32) (l2 : Int32) (l3 : Int32), GX l G M_X6_messagesIn (g_phi G (g_rI h) (m_R M_X6_messagesIn).cells (m_R M_X6_messagesIn).slots) 0 0 4 [some (.ref l0), some (.int l1), some (.int l2), some (.int l3)] [] h (f_X6_messagesIn_b4 h n l0 l1 l2 l3) := by
  intro n
  induction n with
  | zero => intros; exact X_none
  | succ n ih =>
    intro l0 l1 l2 l3
    rw [f_X6_messagesIn_b4]
    refine X_iload_n rfl rfl rfl ?_
    refine X_aload_n rfl rfl rfl ?_
    refine X_getI rfl rfl (fun v6 => ?_)
    refine X_bicmp_ge rfl rfl (fun _ => ?_) (fun _ => ?_)
    · refine X_aload_n rfl rfl rfl ?_
      refine X_iload_n rfl rfl rfl ?_
      refine X_callV_AR (M' := M_X6_messageNumbered) (nA := 1) (As := [.int l3]) (st := []) (b := l0) (ci := 6) rfl rfl (by decide +kernel) rfl rfl rfl rfl rfl rfl rfl rfl (fun _ e => ct_X6_messageNumbered e) (fun v14 => ?_)
      refine X_getI rfl rfl (fun v17 => ?_)
      refine X_iload_n rfl rfl rfl ?_
      refine X_bicmp_ne rfl rfl (fun _ => ?_) (fun _ => ?_)
      · refine X_iinc (v := l2 + 1) rfl rfl rfl (congrArg (fun z => l2 + z) (by decide : Int32.ofInt 1 = 1)) rfl ?_
        exact X_sub (g_sub_s (g_sub_s (g_sub_s (g_sub_s g_sub_0)))) (b_X6_messagesIn_b27 ih _ _ _ _)
      · exact X_sub (g_sub_s (g_sub_s (g_sub_s (g_sub_s g_sub_0)))) (b_X6_messagesIn_b27 ih _ _ _ _)
    · refine X_iload_n rfl rfl rfl ?_
      exact X_iret rfl rfl rfl rfl rfl rfl rfl
set_option maxRecDepth 100000 in
theorem ct_X6_messagesIn {l : Launch} {G : gG} {h : gH} {a0 : Nat} {p1 : Int32} {r : Int32} (e : f_X6_messagesIn h a0 p1 = some r) : Ct l G M_X6_messagesIn [.ref a0, .int p1] h (some (.int r)) h := by
  refine Ct_of (L := [some (.ref a0), some (.int p1), none, none]) ok_X6_messagesIn (by decide +kernel) rfl rfl rfl (ρ := (g_rI h)) (F := f_X6_messagesIn h a0 p1) ?_ e rfl
  unfold f_X6_messagesIn
  refine X_iconst (v := 0) rfl rfl (by decide) ?_
  refine X_istore_n rfl rfl rfl rfl ?_
  refine X_iconst (v := 0) rfl rfl (by decide) ?_
  refine X_istore_n rfl rfl rfl rfl ?_
  exact X_sub (g_sub_s (g_sub_s (g_sub_s (g_sub_s g_sub_0)))) (b_X6_messagesIn_b4  _ _ _ _ _)
def f_X6_agreeing_b26 (h : gH) (K4 : Nat → Int32 → Int32 → Option (Int32)) (l0 : Nat) (l1 : Int32) (l2 : Int32) : Option (Int32) :=
  K4 l0 l1 (l2 + 1)
def f_X6_agreeing_b4 (h : gH) : Nat → Nat → Int32 → Int32 → Option (Int32)
  | 0, _, _, _ => none
  | n + 1, l0, l1, l2 =>
    (g_gI h l0 6 1).bind fun v6 =>
    (if l2 < v6 then
      bif g_is h l0 6 then
      (f_X6_messageNumbered h l0 l2).bind fun v14 =>
      bif g_is h v14 3 then
      (f_X3_agrees h v14).bind fun v17 =>
      (if v17 = 0 then
        f_X6_agreeing_b26 h (f_X6_agreeing_b4 h n) l0 l1 l2
      else
        f_X6_agreeing_b26 h (f_X6_agreeing_b4 h n) l0 (l1 + 1) l2)
      else none
      else none
    else
      some l1)
def f_X6_agreeing (h : gH) (a0 : Nat) : Option (Int32) :=
  f_X6_agreeing_b4 h g_N a0 0 0
set_option maxRecDepth 100000 in
theorem b_X6_agreeing_b26 {l : Launch} {G : gG} {h : gH} {K4 : Nat → Int32 → Int32 → Option (Int32)} (hK4 : ∀ (l0 : Nat) (l1 : Int32) (l2 : Int32), GX l G M_X6_agreeing (g_phi G (g_rI h) (m_R M_X6_agreeing).cells (m_R M_X6_agreeing).slots) 0 0 4 [some (.ref l0), some (.int l1), some (.int l2)] [] h (K4 l0 l1 l2)) (l0 : Nat) (l1 : Int32) (l2 : Int32) : GX l G M_X6_agreeing (g_phi G (g_rI h) (m_R M_X6_agreeing).cells (m_R M_X6_agreeing).slots) 0 0 26 [some (.ref l0), some (.int l1), some (.int l2)] [] h (f_X6_agreeing_b26 h K4 l0 l1 l2) := by
  unfold f_X6_agreeing_b26
  refine X_iinc (v := l2 + 1) rfl rfl rfl (congrArg (fun z => l2 + z) (by decide : Int32.ofInt 1 = 1)) rfl ?_
  refine X_goto rfl rfl ?_
  exact X_sub (g_sub_s (g_sub_s (g_sub_s g_sub_0))) (hK4 _ _ _)
set_option maxRecDepth 100000 in
theorem b_X6_agreeing_b4 {l : Launch} {G : gG} {h : gH} : ∀ (n : Nat) (l0 : Nat) (l1 : Int32) (l2 : Int32), GX l G M_X6_agreeing (g_phi G (g_rI h) (m_R M_X6_agreeing).cells (m_R M_X6_agreeing).slots) 0 0 4 [some (.ref l0), some (.int l1), some (.int l2)] [] h (f_X6_agreeing_b4 h n l0 l1 l2) := by
  intro n
  induction n with
  | zero => intros; exact X_none
  | succ n ih =>
    intro l0 l1 l2
    rw [f_X6_agreeing_b4]
    refine X_iload_n rfl rfl rfl ?_
    refine X_aload_n rfl rfl rfl ?_
    refine X_getI rfl rfl (fun v6 => ?_)
    refine X_bicmp_ge rfl rfl (fun _ => ?_) (fun _ => ?_)
    · refine X_aload_n rfl rfl rfl ?_
      refine X_iload_n rfl rfl rfl ?_
      refine X_callV_AR (M' := M_X6_messageNumbered) (nA := 1) (As := [.int l2]) (st := []) (b := l0) (ci := 6) rfl rfl (by decide +kernel) rfl rfl rfl rfl rfl rfl rfl rfl (fun _ e => ct_X6_messageNumbered e) (fun v14 => ?_)
      refine X_callV_IR (M' := M_X3_agrees) (nA := 0) (As := []) (st := []) (b := v14) (ci := 3) rfl rfl (by decide +kernel) rfl rfl rfl rfl rfl rfl rfl rfl (fun _ e => ct_X3_agrees e) (fun v17 => ?_)
      refine X_bif_eq rfl rfl (fun _ => ?_) (fun _ => ?_)
      · exact X_sub (g_sub_s (g_sub_s (g_sub_s g_sub_0))) (b_X6_agreeing_b26 ih _ _ _)
      · refine X_iinc (v := l1 + 1) rfl rfl rfl (congrArg (fun z => l1 + z) (by decide : Int32.ofInt 1 = 1)) rfl ?_
        exact X_sub (g_sub_s (g_sub_s (g_sub_s g_sub_0))) (b_X6_agreeing_b26 ih _ _ _)
    · refine X_iload_n rfl rfl rfl ?_
      exact X_iret rfl rfl rfl rfl rfl rfl rfl
set_option maxRecDepth 100000 in
theorem ct_X6_agreeing {l : Launch} {G : gG} {h : gH} {a0 : Nat} {r : Int32} (e : f_X6_agreeing h a0 = some r) : Ct l G M_X6_agreeing [.ref a0] h (some (.int r)) h := by
  refine Ct_of (L := [some (.ref a0), none, none]) ok_X6_agreeing (by decide +kernel) rfl rfl rfl (ρ := (g_rI h)) (F := f_X6_agreeing h a0) ?_ e rfl
  unfold f_X6_agreeing
  refine X_iconst (v := 0) rfl rfl (by decide) ?_
  refine X_istore_n rfl rfl rfl rfl ?_
  refine X_iconst (v := 0) rfl rfl (by decide) ?_
  refine X_istore_n rfl rfl rfl rfl ?_
  exact X_sub (g_sub_s (g_sub_s (g_sub_s g_sub_0))) (b_X6_agreeing_b4  _ _ _ _)
def f_X6_figure (h : gH) (a0 : Nat) (p1 : Int32) : Option (Int32) :=
  (if p1 = 0 then
    (g_gI h a0 6 0).bind fun v65 =>
    some v65
  else
    (if p1 = 1 then
      (g_gI h a0 6 1).bind fun v70 =>
      some v70
    else
      (if p1 = 2 then
        (g_gI h a0 6 2).bind fun v75 =>
        some v75
      else
        (if p1 = 3 then
          bif g_is h a0 6 then
          (f_X6_messagesIn h a0 0).bind fun v81 =>
          some v81
          else none
        else
          (if p1 = 4 then
            bif g_is h a0 6 then
            (f_X6_messagesIn h a0 2).bind fun v87 =>
            some v87
            else none
          else
            (if p1 = 5 then
              bif g_is h a0 6 then
              (f_X6_agreeing h a0).bind fun v92 =>
              some v92
              else none
            else
              (if p1 = 6 then
                (g_gI h a0 6 5).bind fun v97 =>
                some v97
              else
                (if p1 = 7 then
                  (g_gI h a0 6 6).bind fun v102 =>
                  some v102
                else
                  (if p1 = 8 then
                    (g_gI h a0 6 7).bind fun v107 =>
                    some v107
                  else
                    (if p1 = 9 then
                      (g_gI h a0 6 8).bind fun v112 =>
                      some v112
                    else
                      (if p1 = 10 then
                        (g_gA h a0 6 15).bind fun v117 =>
                        (g_gI h v117 4 0).bind fun v120 =>
                        some v120
                      else
                        (if p1 = 11 then
                          (g_gI h a0 6 3).bind fun v125 =>
                          some v125
                        else
                          (g_gI h a0 6 4).bind fun v130 =>
                          some v130))))))))))))
set_option maxRecDepth 100000 in
theorem ct_X6_figure {l : Launch} {G : gG} {h : gH} {a0 : Nat} {p1 : Int32} {r : Int32} (e : f_X6_figure h a0 p1 = some r) : Ct l G M_X6_figure [.ref a0, .int p1] h (some (.int r)) h := by
  refine Ct_of (L := [some (.ref a0), some (.int p1)]) ok_X6_figure (by decide +kernel) rfl rfl rfl (ρ := (g_rI h)) (F := f_X6_figure h a0 p1) ?_ e rfl
  unfold f_X6_figure
  refine X_iload_n rfl rfl rfl ?_
  refine X_if (fun c1_0 => ?_) (fun c1_0 => ?_)
  · refine X_tswIn (v := 0) (len := 63) (tgt := 64) (off := 63) rfl rfl c1_0 (by decide) (by decide) rfl rfl ?_
    refine X_aload_n rfl rfl rfl ?_
    refine X_getI rfl rfl (fun v65 => ?_)
    exact X_iret rfl rfl rfl rfl rfl rfl rfl
  · refine X_if (fun c1_1 => ?_) (fun c1_1 => ?_)
    · refine X_tswIn (v := 1) (len := 63) (tgt := 69) (off := 68) rfl rfl c1_1 (by decide) (by decide) rfl rfl ?_
      refine X_aload_n rfl rfl rfl ?_
      refine X_getI rfl rfl (fun v70 => ?_)
      exact X_iret rfl rfl rfl rfl rfl rfl rfl
    · refine X_if (fun c1_2 => ?_) (fun c1_2 => ?_)
      · refine X_tswIn (v := 2) (len := 63) (tgt := 74) (off := 73) rfl rfl c1_2 (by decide) (by decide) rfl rfl ?_
        refine X_aload_n rfl rfl rfl ?_
        refine X_getI rfl rfl (fun v75 => ?_)
        exact X_iret rfl rfl rfl rfl rfl rfl rfl
      · refine X_if (fun c1_3 => ?_) (fun c1_3 => ?_)
        · refine X_tswIn (v := 3) (len := 63) (tgt := 79) (off := 78) rfl rfl c1_3 (by decide) (by decide) rfl rfl ?_
          refine X_aload_n rfl rfl rfl ?_
          refine X_iconst (v := 0) rfl rfl (by decide) ?_
          refine X_callV_IR (M' := M_X6_messagesIn) (nA := 1) (As := [.int 0]) (st := []) (b := a0) (ci := 6) rfl rfl (by decide +kernel) rfl rfl rfl rfl rfl rfl rfl rfl (fun _ e => ct_X6_messagesIn e) (fun v81 => ?_)
          exact X_iret rfl rfl rfl rfl rfl rfl rfl
        · refine X_if (fun c1_4 => ?_) (fun c1_4 => ?_)
          · refine X_tswIn (v := 4) (len := 63) (tgt := 85) (off := 84) rfl rfl c1_4 (by decide) (by decide) rfl rfl ?_
            refine X_aload_n rfl rfl rfl ?_
            refine X_iconst (v := 2) rfl rfl (by decide) ?_
            refine X_callV_IR (M' := M_X6_messagesIn) (nA := 1) (As := [.int 2]) (st := []) (b := a0) (ci := 6) rfl rfl (by decide +kernel) rfl rfl rfl rfl rfl rfl rfl rfl (fun _ e => ct_X6_messagesIn e) (fun v87 => ?_)
            exact X_iret rfl rfl rfl rfl rfl rfl rfl
          · refine X_if (fun c1_5 => ?_) (fun c1_5 => ?_)
            · refine X_tswIn (v := 5) (len := 63) (tgt := 91) (off := 90) rfl rfl c1_5 (by decide) (by decide) rfl rfl ?_
              refine X_aload_n rfl rfl rfl ?_
              refine X_callV_IR (M' := M_X6_agreeing) (nA := 0) (As := []) (st := []) (b := a0) (ci := 6) rfl rfl (by decide +kernel) rfl rfl rfl rfl rfl rfl rfl rfl (fun _ e => ct_X6_agreeing e) (fun v92 => ?_)
              exact X_iret rfl rfl rfl rfl rfl rfl rfl
            · refine X_if (fun c1_6 => ?_) (fun c1_6 => ?_)
              · refine X_tswIn (v := 6) (len := 63) (tgt := 96) (off := 95) rfl rfl c1_6 (by decide) (by decide) rfl rfl ?_
                refine X_aload_n rfl rfl rfl ?_
                refine X_getI rfl rfl (fun v97 => ?_)
                exact X_iret rfl rfl rfl rfl rfl rfl rfl
              · refine X_if (fun c1_7 => ?_) (fun c1_7 => ?_)
                · refine X_tswIn (v := 7) (len := 63) (tgt := 101) (off := 100) rfl rfl c1_7 (by decide) (by decide) rfl rfl ?_
                  refine X_aload_n rfl rfl rfl ?_
                  refine X_getI rfl rfl (fun v102 => ?_)
                  exact X_iret rfl rfl rfl rfl rfl rfl rfl
                · refine X_if (fun c1_8 => ?_) (fun c1_8 => ?_)
                  · refine X_tswIn (v := 8) (len := 63) (tgt := 106) (off := 105) rfl rfl c1_8 (by decide) (by decide) rfl rfl ?_
                    refine X_aload_n rfl rfl rfl ?_
                    refine X_getI rfl rfl (fun v107 => ?_)
                    exact X_iret rfl rfl rfl rfl rfl rfl rfl
                  · refine X_if (fun c1_9 => ?_) (fun c1_9 => ?_)
                    · refine X_tswIn (v := 9) (len := 63) (tgt := 111) (off := 110) rfl rfl c1_9 (by decide) (by decide) rfl rfl ?_
                      refine X_aload_n rfl rfl rfl ?_
                      refine X_getI rfl rfl (fun v112 => ?_)
                      exact X_iret rfl rfl rfl rfl rfl rfl rfl
                    · refine X_if (fun c1_10 => ?_) (fun c1_10 => ?_)
                      · refine X_tswIn (v := 10) (len := 63) (tgt := 116) (off := 115) rfl rfl c1_10 (by decide) (by decide) rfl rfl ?_
                        refine X_aload_n rfl rfl rfl ?_
                        refine X_getA rfl rfl (fun v117 => ?_)
                        refine X_getI rfl rfl (fun v120 => ?_)
                        exact X_iret rfl rfl rfl rfl rfl rfl rfl
                      · refine X_if (fun c1_11 => ?_) (fun c1_11 => ?_)
                        · refine X_tswIn (v := 11) (len := 63) (tgt := 124) (off := 123) rfl rfl c1_11 (by decide) (by decide) rfl rfl ?_
                          refine X_aload_n rfl rfl rfl ?_
                          refine X_getI rfl rfl (fun v125 => ?_)
                          exact X_iret rfl rfl rfl rfl rfl rfl rfl
                        · refine X_tswOut (len := 63) (tgt := 129) rfl rfl (by have := g_neI c1_0 (show Int32.toInt (0) = 0 by decide) ; have := g_neI c1_1 (show Int32.toInt (1) = 1 by decide) ; have := g_neI c1_2 (show Int32.toInt (2) = 2 by decide) ; have := g_neI c1_3 (show Int32.toInt (3) = 3 by decide) ; have := g_neI c1_4 (show Int32.toInt (4) = 4 by decide) ; have := g_neI c1_5 (show Int32.toInt (5) = 5 by decide) ; have := g_neI c1_6 (show Int32.toInt (6) = 6 by decide) ; have := g_neI c1_7 (show Int32.toInt (7) = 7 by decide) ; have := g_neI c1_8 (show Int32.toInt (8) = 8 by decide) ; have := g_neI c1_9 (show Int32.toInt (9) = 9 by decide) ; have := g_neI c1_10 (show Int32.toInt (10) = 10 by decide) ; have := g_neI c1_11 (show Int32.toInt (11) = 11 by decide); omega) rfl ?_
                          refine X_aload_n rfl rfl rfl ?_
                          refine X_getI rfl rfl (fun v130 => ?_)
                          exact X_iret rfl rfl rfl rfl rfl rfl rfl
def f_X6_isBusy_b16 (h : gH) : Option (Int32) :=
  some 1
def f_X6_isBusy (h : gH) (a0 : Nat) : Option (Int32) :=
  (g_gI h a0 6 2).bind fun v1 =>
  (if v1 = (-1) then
    bif g_is h a0 6 then
    (f_X6_messagesIn h a0 0).bind fun v10 =>
    (if 0 < v10 then
      f_X6_isBusy_b16 h
    else
      some 0)
    else none
  else
    f_X6_isBusy_b16 h)
set_option maxRecDepth 100000 in
theorem b_X6_isBusy_b16 {l : Launch} {G : gG} {h : gH} : GX l G M_X6_isBusy (g_phi G (g_rI h) (m_R M_X6_isBusy).cells (m_R M_X6_isBusy).slots) 0 0 16 [none] [] h (f_X6_isBusy_b16 h) := by
  unfold f_X6_isBusy_b16
  refine X_iconst (v := 1) rfl rfl (by decide) ?_
  refine X_goto rfl rfl ?_
  exact X_iret rfl rfl rfl rfl rfl rfl rfl
set_option maxRecDepth 100000 in
theorem ct_X6_isBusy {l : Launch} {G : gG} {h : gH} {a0 : Nat} {r : Int32} (e : f_X6_isBusy h a0 = some r) : Ct l G M_X6_isBusy [.ref a0] h (some (.int r)) h := by
  refine Ct_of (L := [some (.ref a0)]) ok_X6_isBusy (by decide +kernel) rfl rfl rfl (ρ := (g_rI h)) (F := f_X6_isBusy h a0) ?_ e rfl
  unfold f_X6_isBusy
  refine X_aload_n rfl rfl rfl ?_
  refine X_getI rfl rfl (fun v1 => ?_)
  refine X_iconst (v := -1) rfl rfl (by decide) ?_
  refine X_bicmp_ne rfl rfl (fun _ => ?_) (fun _ => ?_)
  · refine X_aload_n rfl rfl rfl ?_
    refine X_iconst (v := 0) rfl rfl (by decide) ?_
    refine X_callV_IR (M' := M_X6_messagesIn) (nA := 1) (As := [.int 0]) (st := []) (b := a0) (ci := 6) rfl rfl (by decide +kernel) rfl rfl rfl rfl rfl rfl rfl rfl (fun _ e => ct_X6_messagesIn e) (fun v10 => ?_)
    refine X_bif_le rfl rfl (fun _ => ?_) (fun _ => ?_)
    · exact X_sub (g_sub_n g_sub_0) (b_X6_isBusy_b16  )
    · refine X_iconst (v := 0) rfl rfl (by decide) ?_
      exact X_iret rfl rfl rfl rfl rfl rfl rfl
  · exact X_sub (g_sub_n g_sub_0) (b_X6_isBusy_b16  )
def f_X6_servedBefore_b66 (h : gH) (K14 : Nat → Int32 → Int32 → Int32 → Int32 → Option (Int32)) (l0 : Nat) (l1 : Int32) (l2 : Int32) (l3 : Int32) (l4 : Int32) : Option (Int32) :=
  K14 l0 l1 l2 l3 (l4 + 1)
def f_X6_servedBefore_b63 (h : gH) (K14 : Nat → Int32 → Int32 → Int32 → Int32 → Option (Int32)) (l0 : Nat) (l1 : Int32) (l2 : Int32) (l3 : Int32) (l4 : Int32) : Option (Int32) :=
  f_X6_servedBefore_b66 h K14 l0 l1 l2 (l3 + 1) l4
def f_X6_servedBefore_b14 (h : gH) : Nat → Nat → Int32 → Int32 → Int32 → Int32 → Option (Int32)
  | 0, _, _, _, _, _ => none
  | n + 1, l0, l1, l2, l3, l4 =>
    (g_gI h l0 6 1).bind fun v17 =>
    (if l4 < v17 then
      bif g_is h l0 6 then
      (f_X6_messageNumbered h l0 l4).bind fun v26 =>
      (g_gI h v26 3 5).bind fun v33 =>
      (if v33 = 0 then
        (g_gI h v26 3 1).bind fun v41 =>
        (if v41 ≤ l2 then
          (g_gI h v26 3 1).bind fun v50 =>
          (if v50 = l2 then
            (if l4 < l1 then
              f_X6_servedBefore_b63 h (f_X6_servedBefore_b14 h n) l0 l1 l2 l3 l4
            else
              f_X6_servedBefore_b66 h (f_X6_servedBefore_b14 h n) l0 l1 l2 l3 l4)
          else
            f_X6_servedBefore_b66 h (f_X6_servedBefore_b14 h n) l0 l1 l2 l3 l4)
        else
          f_X6_servedBefore_b63 h (f_X6_servedBefore_b14 h n) l0 l1 l2 l3 l4)
      else
        f_X6_servedBefore_b66 h (f_X6_servedBefore_b14 h n) l0 l1 l2 l3 l4)
      else none
    else
      some l3)
def f_X6_servedBefore (h : gH) (a0 : Nat) (p1 : Int32) : Option (Int32) :=
  bif g_is h a0 6 then
  (f_X6_messageNumbered h a0 p1).bind fun v2 =>
  (g_gI h v2 3 1).bind fun v5 =>
  f_X6_servedBefore_b14 h g_N a0 p1 v5 0 0
  else none
set_option maxRecDepth 100000 in
theorem b_X6_servedBefore_b66 {l : Launch} {G : gG} {h : gH} {K14 : Nat → Int32 → Int32 → Int32 → Int32 → Option (Int32)} (hK14 : ∀ (l0 : Nat) (l1 : Int32) (l2 : Int32) (l3 : Int32) (l4 : Int32), GX l G M_X6_servedBefore (g_phi G (g_rI h) (m_R M_X6_servedBefore).cells (m_R M_X6_servedBefore).slots) 0 0 14 [some (.ref l0), some (.int l1), some (.int l2), some (.int l3), some (.int l4), none] [] h (K14 l0 l1 l2 l3 l4)) (l0 : Nat) (l1 : Int32) (l2 : Int32) (l3 : Int32) (l4 : Int32) : GX l G M_X6_servedBefore (g_phi G (g_rI h) (m_R M_X6_servedBefore).cells (m_R M_X6_servedBefore).slots) 0 0 66 [some (.ref l0), some (.int l1), some (.int l2), some (.int l3), some (.int l4), none] [] h (f_X6_servedBefore_b66 h K14 l0 l1 l2 l3 l4) := by
  unfold f_X6_servedBefore_b66
  refine X_iinc (v := l4 + 1) rfl rfl rfl (congrArg (fun z => l4 + z) (by decide : Int32.ofInt 1 = 1)) rfl ?_
  refine X_goto rfl rfl ?_
  exact X_sub (g_sub_s (g_sub_s (g_sub_s (g_sub_s (g_sub_s (g_sub_n g_sub_0)))))) (hK14 _ _ _ _ _)
set_option maxRecDepth 100000 in
theorem b_X6_servedBefore_b63 {l : Launch} {G : gG} {h : gH} {K14 : Nat → Int32 → Int32 → Int32 → Int32 → Option (Int32)} (hK14 : ∀ (l0 : Nat) (l1 : Int32) (l2 : Int32) (l3 : Int32) (l4 : Int32), GX l G M_X6_servedBefore (g_phi G (g_rI h) (m_R M_X6_servedBefore).cells (m_R M_X6_servedBefore).slots) 0 0 14 [some (.ref l0), some (.int l1), some (.int l2), some (.int l3), some (.int l4), none] [] h (K14 l0 l1 l2 l3 l4)) (l0 : Nat) (l1 : Int32) (l2 : Int32) (l3 : Int32) (l4 : Int32) : GX l G M_X6_servedBefore (g_phi G (g_rI h) (m_R M_X6_servedBefore).cells (m_R M_X6_servedBefore).slots) 0 0 63 [some (.ref l0), some (.int l1), some (.int l2), some (.int l3), some (.int l4), none] [] h (f_X6_servedBefore_b63 h K14 l0 l1 l2 l3 l4) := by
  unfold f_X6_servedBefore_b63
  refine X_iinc (v := l3 + 1) rfl rfl rfl (congrArg (fun z => l3 + z) (by decide : Int32.ofInt 1 = 1)) rfl ?_
  exact X_sub (g_sub_s (g_sub_s (g_sub_s (g_sub_s (g_sub_s (g_sub_n g_sub_0)))))) (b_X6_servedBefore_b66 hK14 _ _ _ _ _)
set_option maxRecDepth 100000 in
theorem b_X6_servedBefore_b14 {l : Launch} {G : gG} {h : gH} : ∀ (n : Nat) (l0 : Nat) (l1 : Int32) (l2 : Int32) (l3 : Int32) (l4 : Int32), GX l G M_X6_servedBefore (g_phi G (g_rI h) (m_R M_X6_servedBefore).cells (m_R M_X6_servedBefore).slots) 0 0 14 [some (.ref l0), some (.int l1), some (.int l2), some (.int l3), some (.int l4), none] [] h (f_X6_servedBefore_b14 h n l0 l1 l2 l3 l4) := by
  intro n
  induction n with
  | zero => intros; exact X_none
  | succ n ih =>
    intro l0 l1 l2 l3 l4
    rw [f_X6_servedBefore_b14]
    refine X_iload rfl rfl rfl ?_
    refine X_aload_n rfl rfl rfl ?_
    refine X_getI rfl rfl (fun v17 => ?_)
    refine X_bicmp_ge rfl rfl (fun _ => ?_) (fun _ => ?_)
    · refine X_aload_n rfl rfl rfl ?_
      refine X_iload rfl rfl rfl ?_
      refine X_callV_AR (M' := M_X6_messageNumbered) (nA := 1) (As := [.int l4]) (st := []) (b := l0) (ci := 6) rfl rfl (by decide +kernel) rfl rfl rfl rfl rfl rfl rfl rfl (fun _ e => ct_X6_messageNumbered e) (fun v26 => ?_)
      refine X_astore rfl rfl rfl rfl ?_
      refine X_aload rfl rfl rfl ?_
      refine X_getI rfl rfl (fun v33 => ?_)
      refine X_bif_ne rfl rfl (fun _ => ?_) (fun _ => ?_)
      · refine X_aload rfl rfl rfl ?_
        refine X_getI rfl rfl (fun v41 => ?_)
        refine X_iload_n rfl rfl rfl ?_
        refine X_bicmp_gt rfl rfl (fun _ => ?_) (fun _ => ?_)
        · refine X_aload rfl rfl rfl ?_
          refine X_getI rfl rfl (fun v50 => ?_)
          refine X_iload_n rfl rfl rfl ?_
          refine X_bicmp_ne rfl rfl (fun _ => ?_) (fun _ => ?_)
          · refine X_iload rfl rfl rfl ?_
            refine X_iload_n rfl rfl rfl ?_
            refine X_bicmp_ge rfl rfl (fun _ => ?_) (fun _ => ?_)
            · exact X_sub (g_sub_s (g_sub_s (g_sub_s (g_sub_s (g_sub_s (g_sub_n g_sub_0)))))) (b_X6_servedBefore_b63 ih _ _ _ _ _)
            · exact X_sub (g_sub_s (g_sub_s (g_sub_s (g_sub_s (g_sub_s (g_sub_n g_sub_0)))))) (b_X6_servedBefore_b66 ih _ _ _ _ _)
          · exact X_sub (g_sub_s (g_sub_s (g_sub_s (g_sub_s (g_sub_s (g_sub_n g_sub_0)))))) (b_X6_servedBefore_b66 ih _ _ _ _ _)
        · exact X_sub (g_sub_s (g_sub_s (g_sub_s (g_sub_s (g_sub_s (g_sub_n g_sub_0)))))) (b_X6_servedBefore_b63 ih _ _ _ _ _)
      · exact X_sub (g_sub_s (g_sub_s (g_sub_s (g_sub_s (g_sub_s (g_sub_n g_sub_0)))))) (b_X6_servedBefore_b66 ih _ _ _ _ _)
    · refine X_iload_n rfl rfl rfl ?_
      exact X_iret rfl rfl rfl rfl rfl rfl rfl
set_option maxRecDepth 100000 in
theorem ct_X6_servedBefore {l : Launch} {G : gG} {h : gH} {a0 : Nat} {p1 : Int32} {r : Int32} (e : f_X6_servedBefore h a0 p1 = some r) : Ct l G M_X6_servedBefore [.ref a0, .int p1] h (some (.int r)) h := by
  refine Ct_of (L := [some (.ref a0), some (.int p1), none, none, none, none]) ok_X6_servedBefore (by decide +kernel) rfl rfl rfl (ρ := (g_rI h)) (F := f_X6_servedBefore h a0 p1) ?_ e rfl
  unfold f_X6_servedBefore
  refine X_aload_n rfl rfl rfl ?_
  refine X_iload_n rfl rfl rfl ?_
  refine X_callV_AR (M' := M_X6_messageNumbered) (nA := 1) (As := [.int p1]) (st := []) (b := a0) (ci := 6) rfl rfl (by decide +kernel) rfl rfl rfl rfl rfl rfl rfl rfl (fun _ e => ct_X6_messageNumbered e) (fun v2 => ?_)
  refine X_getI rfl rfl (fun v5 => ?_)
  refine X_istore_n rfl rfl rfl rfl ?_
  refine X_iconst (v := 0) rfl rfl (by decide) ?_
  refine X_istore_n rfl rfl rfl rfl ?_
  refine X_iconst (v := 0) rfl rfl (by decide) ?_
  refine X_istore rfl rfl rfl rfl ?_
  exact X_sub (g_sub_s (g_sub_s (g_sub_s (g_sub_s (g_sub_s (g_sub_n g_sub_0)))))) (b_X6_servedBefore_b14  _ _ _ _ _ _)
def f_X6_servedAs_b32 (h : gH) (K2 : Nat → Int32 → Int32 → Option (Int32)) (l0 : Nat) (l1 : Int32) (l2 : Int32) : Option (Int32) :=
  K2 l0 l1 (l2 + 1)
def f_X6_servedAs_b2 (h : gH) : Nat → Nat → Int32 → Int32 → Option (Int32)
  | 0, _, _, _ => none
  | n + 1, l0, l1, l2 =>
    (g_gI h l0 6 1).bind fun v4 =>
    (if l2 < v4 then
      bif g_is h l0 6 then
      (f_X6_messageNumbered h l0 l2).bind fun v12 =>
      (g_gI h v12 3 5).bind fun v15 =>
      (if v15 = 0 then
        bif g_is h l0 6 then
        (f_X6_servedBefore h l0 l2).bind fun v23 =>
        (if v23 = l1 then
          some l2
        else
          f_X6_servedAs_b32 h (f_X6_servedAs_b2 h n) l0 l1 l2)
        else none
      else
        f_X6_servedAs_b32 h (f_X6_servedAs_b2 h n) l0 l1 l2)
      else none
    else
      some (-1))
def f_X6_servedAs (h : gH) (a0 : Nat) (p1 : Int32) : Option (Int32) :=
  f_X6_servedAs_b2 h g_N a0 p1 0
set_option maxRecDepth 100000 in
theorem b_X6_servedAs_b32 {l : Launch} {G : gG} {h : gH} {K2 : Nat → Int32 → Int32 → Option (Int32)} (hK2 : ∀ (l0 : Nat) (l1 : Int32) (l2 : Int32), GX l G M_X6_servedAs (g_phi G (g_rI h) (m_R M_X6_servedAs).cells (m_R M_X6_servedAs).slots) 0 0 2 [some (.ref l0), some (.int l1), some (.int l2)] [] h (K2 l0 l1 l2)) (l0 : Nat) (l1 : Int32) (l2 : Int32) : GX l G M_X6_servedAs (g_phi G (g_rI h) (m_R M_X6_servedAs).cells (m_R M_X6_servedAs).slots) 0 0 32 [some (.ref l0), some (.int l1), some (.int l2)] [] h (f_X6_servedAs_b32 h K2 l0 l1 l2) := by
  unfold f_X6_servedAs_b32
  refine X_iinc (v := l2 + 1) rfl rfl rfl (congrArg (fun z => l2 + z) (by decide : Int32.ofInt 1 = 1)) rfl ?_
  refine X_goto rfl rfl ?_
  exact X_sub (g_sub_s (g_sub_s (g_sub_s g_sub_0))) (hK2 _ _ _)
set_option maxRecDepth 100000 in
theorem b_X6_servedAs_b2 {l : Launch} {G : gG} {h : gH} : ∀ (n : Nat) (l0 : Nat) (l1 : Int32) (l2 : Int32), GX l G M_X6_servedAs (g_phi G (g_rI h) (m_R M_X6_servedAs).cells (m_R M_X6_servedAs).slots) 0 0 2 [some (.ref l0), some (.int l1), some (.int l2)] [] h (f_X6_servedAs_b2 h n l0 l1 l2) := by
  intro n
  induction n with
  | zero => intros; exact X_none
  | succ n ih =>
    intro l0 l1 l2
    rw [f_X6_servedAs_b2]
    refine X_iload_n rfl rfl rfl ?_
    refine X_aload_n rfl rfl rfl ?_
    refine X_getI rfl rfl (fun v4 => ?_)
    refine X_bicmp_ge rfl rfl (fun _ => ?_) (fun _ => ?_)
    · refine X_aload_n rfl rfl rfl ?_
      refine X_iload_n rfl rfl rfl ?_
      refine X_callV_AR (M' := M_X6_messageNumbered) (nA := 1) (As := [.int l2]) (st := []) (b := l0) (ci := 6) rfl rfl (by decide +kernel) rfl rfl rfl rfl rfl rfl rfl rfl (fun _ e => ct_X6_messageNumbered e) (fun v12 => ?_)
      refine X_getI rfl rfl (fun v15 => ?_)
      refine X_bif_ne rfl rfl (fun _ => ?_) (fun _ => ?_)
      · refine X_aload_n rfl rfl rfl ?_
        refine X_iload_n rfl rfl rfl ?_
        refine X_callV_IR (M' := M_X6_servedBefore) (nA := 1) (As := [.int l2]) (st := []) (b := l0) (ci := 6) rfl rfl (by decide +kernel) rfl rfl rfl rfl rfl rfl rfl rfl (fun _ e => ct_X6_servedBefore e) (fun v23 => ?_)
        refine X_iload_n rfl rfl rfl ?_
        refine X_bicmp_ne rfl rfl (fun _ => ?_) (fun _ => ?_)
        · refine X_iload_n rfl rfl rfl ?_
          exact X_iret rfl rfl rfl rfl rfl rfl rfl
        · exact X_sub (g_sub_s (g_sub_s (g_sub_s g_sub_0))) (b_X6_servedAs_b32 ih _ _ _)
      · exact X_sub (g_sub_s (g_sub_s (g_sub_s g_sub_0))) (b_X6_servedAs_b32 ih _ _ _)
    · refine X_iconst (v := -1) rfl rfl (by decide) ?_
      exact X_iret rfl rfl rfl rfl rfl rfl rfl
set_option maxRecDepth 100000 in
theorem ct_X6_servedAs {l : Launch} {G : gG} {h : gH} {a0 : Nat} {p1 : Int32} {r : Int32} (e : f_X6_servedAs h a0 p1 = some r) : Ct l G M_X6_servedAs [.ref a0, .int p1] h (some (.int r)) h := by
  refine Ct_of (L := [some (.ref a0), some (.int p1), none]) ok_X6_servedAs (by decide +kernel) rfl rfl rfl (ρ := (g_rI h)) (F := f_X6_servedAs h a0 p1) ?_ e rfl
  unfold f_X6_servedAs
  refine X_iconst (v := 0) rfl rfl (by decide) ?_
  refine X_istore_n rfl rfl rfl rfl ?_
  exact X_sub (g_sub_s (g_sub_s (g_sub_s g_sub_0))) (b_X6_servedAs_b2  _ _ _ _)
def f_X6_takeBack_b13 (h : gH) (l0 : Nat) (l1 : Int32) (s0 : Int32) : Option (Int32 × gH) :=
  bif g_is h l0 6 then
  (f_X6_messageNumbered h l0 l1).bind fun v16 =>
  (g_gI h l0 6 0).bind fun v21 =>
  bif g_is h v16 3 then
  (f_X3_end h v16 3 v21).bind fun h24 =>
  (if s0 = 0 then
    (g_z s0).bind fun z => some (s0, h24)
  else
    (g_put h24 l0 6 2 (.int (-1))).bind fun h33 =>
    (g_gA h33 l0 6 11).bind fun v37 =>
    bif g_is h33 v37 0 then
    (f_X0_becomeIdle h33 v37).bind fun h40 =>
    (g_gA h40 l0 6 12).bind fun v44 =>
    bif g_is h40 v44 0 then
    (f_X0_becomeIdle h40 v44).bind fun h47 =>
    (g_z s0).bind fun z => some (s0, h47)
    else none
    else none)
  else none
  else none
def f_X6_takeBack (h : gH) (a0 : Nat) (p1 : Int32) : Option (Int32 × gH) :=
  (g_gI h a0 6 2).bind fun v2 =>
  (if p1 = v2 then
    f_X6_takeBack_b13 h a0 p1 1
  else
    f_X6_takeBack_b13 h a0 p1 0)
set_option maxRecDepth 100000 in
theorem b_X6_takeBack_b13 {l : Launch} {G : gG} (h : gH) (l0 : Nat) (l1 : Int32) (s0 : Int32) : GX l G M_X6_takeBack (g_phi G g_wI (m_R M_X6_takeBack).cells (m_R M_X6_takeBack).slots) 0 0 13 [some (.ref l0), some (.int l1), none] [.int s0] h (f_X6_takeBack_b13 h l0 l1 s0) := by
  unfold f_X6_takeBack_b13
  refine X_istore_n rfl rfl rfl rfl ?_
  refine X_aload_n rfl rfl rfl ?_
  refine X_iload_n rfl rfl rfl ?_
  refine X_callV_AR (M' := M_X6_messageNumbered) (nA := 1) (As := [.int l1]) (st := []) (b := l0) (ci := 6) rfl rfl (by decide +kernel) rfl rfl rfl rfl rfl rfl rfl rfl (fun _ e => ct_X6_messageNumbered e) (fun v16 => ?_)
  refine X_iconst (v := 3) rfl rfl (by decide) ?_
  refine X_aload_n rfl rfl rfl ?_
  refine X_getI rfl rfl (fun v21 => ?_)
  refine X_callV_UW (M' := M_X3_end) (nA := 2) (As := [.int 3, .int v21]) (st := []) (b := v16) (ci := 3) rfl rfl (by decide +kernel) rfl rfl rfl rfl rfl rfl rfl rfl (fun _ e => ct_X3_end e) (fun h24 => ?_)
  refine X_iload_n rfl rfl rfl ?_
  refine X_bif_eq rfl rfl (fun _ => ?_) (fun _ => ?_)
  · refine X_iload_n rfl rfl rfl ?_
    exact X_zret rfl rfl rfl ⟨_, rfl, rfl⟩ rfl rfl
  · refine X_aload_n rfl rfl rfl ?_
    refine X_iconst (v := -1) rfl rfl (by decide) ?_
    refine X_put rfl rfl rfl rfl rfl (fun h33 => ?_)
    refine X_aload_n rfl rfl rfl ?_
    refine X_getA rfl rfl (fun v37 => ?_)
    refine X_callV_UW (M' := M_X0_becomeIdle) (nA := 0) (As := []) (st := []) (b := v37) (ci := 0) rfl rfl (by decide +kernel) rfl rfl rfl rfl rfl rfl rfl rfl (fun _ e => ct_X0_becomeIdle e) (fun h40 => ?_)
    refine X_aload_n rfl rfl rfl ?_
    refine X_getA rfl rfl (fun v44 => ?_)
    refine X_callV_UW (M' := M_X0_becomeIdle) (nA := 0) (As := []) (st := []) (b := v44) (ci := 0) rfl rfl (by decide +kernel) rfl rfl rfl rfl rfl rfl rfl rfl (fun _ e => ct_X0_becomeIdle e) (fun h47 => ?_)
    refine X_iload_n rfl rfl rfl ?_
    exact X_zret rfl rfl rfl ⟨_, rfl, rfl⟩ rfl rfl
set_option maxRecDepth 100000 in
theorem ct_X6_takeBack {l : Launch} {G : gG} {h : gH} {a0 : Nat} {p1 : Int32} {r : Int32} {h1 : gH} (e : f_X6_takeBack h a0 p1 = some (r, h1)) : Ct l G M_X6_takeBack [.ref a0, .int p1] h (some (.int r)) h1 := by
  refine Ct_of (L := [some (.ref a0), some (.int p1), none]) ok_X6_takeBack (by decide +kernel) rfl rfl rfl (ρ := g_wI) (F := f_X6_takeBack h a0 p1) ?_ e rfl
  unfold f_X6_takeBack
  refine X_iload_n rfl rfl rfl ?_
  refine X_aload_n rfl rfl rfl ?_
  refine X_getI rfl rfl (fun v2 => ?_)
  refine X_bicmp_ne rfl rfl (fun _ => ?_) (fun _ => ?_)
  · refine X_iconst (v := 1) rfl rfl (by decide) ?_
    refine X_goto rfl rfl ?_
    exact X_sub (g_sub_s (g_sub_s (g_sub_n g_sub_0))) (b_X6_takeBack_b13  _ _ _ _)
  · refine X_iconst (v := 0) rfl rfl (by decide) ?_
    exact X_sub (g_sub_s (g_sub_s (g_sub_n g_sub_0))) (b_X6_takeBack_b13  _ _ _ _)
def f_X6_startFirstWaiting (h : gH) (a0 : Nat) : Option gH :=
  bif g_is h a0 6 then
  (f_X6_servedAs h a0 0).bind fun v3 =>
  (g_put h a0 6 2 (.int v3)).bind fun h6 =>
  (g_gI h6 a0 6 2).bind fun v10 =>
  (if v10 = (-1) then
    some h6
  else
    (g_gI h6 a0 6 2).bind fun v19 =>
    bif g_is h6 a0 6 then
    (f_X6_messageNumbered h6 a0 v19).bind fun v22 =>
    (g_gI h6 a0 6 0).bind fun v26 =>
    bif g_is h6 v22 3 then
    (f_X3_start h6 v22 v26).bind fun h29 =>
    some h29
    else none
    else none)
  else none
set_option maxRecDepth 100000 in
theorem ct_X6_startFirstWaiting {l : Launch} {G : gG} {h : gH} {a0 : Nat} {h1 : gH} (e : f_X6_startFirstWaiting h a0 = some h1) : Ct l G M_X6_startFirstWaiting [.ref a0] h none h1 := by
  refine Ct_of (L := [some (.ref a0)]) ok_X6_startFirstWaiting (by decide +kernel) rfl rfl rfl (ρ := g_wU) (F := f_X6_startFirstWaiting h a0) ?_ e rfl
  unfold f_X6_startFirstWaiting
  refine X_aload_n rfl rfl rfl ?_
  refine X_aload_n rfl rfl rfl ?_
  refine X_iconst (v := 0) rfl rfl (by decide) ?_
  refine X_callV_IR (M' := M_X6_servedAs) (nA := 1) (As := [.int 0]) (st := [.ref a0]) (b := a0) (ci := 6) rfl rfl (by decide +kernel) rfl rfl rfl rfl rfl rfl rfl rfl (fun _ e => ct_X6_servedAs e) (fun v3 => ?_)
  refine X_put rfl rfl rfl rfl rfl (fun h6 => ?_)
  refine X_aload_n rfl rfl rfl ?_
  refine X_getI rfl rfl (fun v10 => ?_)
  refine X_iconst (v := -1) rfl rfl (by decide) ?_
  refine X_bicmp_eq rfl rfl (fun _ => ?_) (fun _ => ?_)
  · exact X_vret rfl rfl rfl rfl rfl rfl
  · refine X_aload_n rfl rfl rfl ?_
    refine X_aload_n rfl rfl rfl ?_
    refine X_getI rfl rfl (fun v19 => ?_)
    refine X_callV_AR (M' := M_X6_messageNumbered) (nA := 1) (As := [.int v19]) (st := []) (b := a0) (ci := 6) rfl rfl (by decide +kernel) rfl rfl rfl rfl rfl rfl rfl rfl (fun _ e => ct_X6_messageNumbered e) (fun v22 => ?_)
    refine X_aload_n rfl rfl rfl ?_
    refine X_getI rfl rfl (fun v26 => ?_)
    refine X_callV_UW (M' := M_X3_start) (nA := 1) (As := [.int v26]) (st := []) (b := v22) (ci := 3) rfl rfl (by decide +kernel) rfl rfl rfl rfl rfl rfl rfl rfl (fun _ e => ct_X3_start e) (fun h29 => ?_)
    exact X_vret rfl rfl rfl rfl rfl rfl
def f_X6_countSymbol_b24 (h : gH) (l0 : Nat) (l2 : Int32) : Option gH :=
  (if l2 = 0 then
    some h
  else
    (g_gI h l0 6 7).bind fun v30 =>
    (g_put h l0 6 7 (.int (v30 + 1))).bind fun h35 =>
    some h35)
def f_X6_countSymbol (h : gH) (a0 : Nat) (p1 : Int32) (p2 : Int32) : Option gH :=
  (g_gI h a0 6 5).bind fun v2 =>
  (g_put h a0 6 5 (.int (v2 + 1))).bind fun h7 =>
  (if p1 = 0 then
    f_X6_countSymbol_b24 h7 a0 p2
  else
    (g_gI h7 a0 6 6).bind fun v16 =>
    (g_put h7 a0 6 6 (.int (v16 + 1))).bind fun h21 =>
    f_X6_countSymbol_b24 h21 a0 p2)
set_option maxRecDepth 100000 in
theorem b_X6_countSymbol_b24 {l : Launch} {G : gG} (h : gH) (l0 : Nat) (l2 : Int32) : GX l G M_X6_countSymbol (g_phi G g_wU (m_R M_X6_countSymbol).cells (m_R M_X6_countSymbol).slots) 0 0 24 [some (.ref l0), none, some (.int l2)] [] h (f_X6_countSymbol_b24 h l0 l2) := by
  unfold f_X6_countSymbol_b24
  refine X_iload_n rfl rfl rfl ?_
  refine X_bif_eq rfl rfl (fun _ => ?_) (fun _ => ?_)
  · exact X_vret rfl rfl rfl rfl rfl rfl
  · refine X_aload_n rfl rfl rfl ?_
    refine X_dup rfl rfl rfl ?_
    refine X_getI rfl rfl (fun v30 => ?_)
    refine X_iconst (v := 1) rfl rfl (by decide) ?_
    refine X_iadd rfl rfl ?_
    refine X_put rfl rfl rfl rfl rfl (fun h35 => ?_)
    exact X_vret rfl rfl rfl rfl rfl rfl
set_option maxRecDepth 100000 in
theorem ct_X6_countSymbol {l : Launch} {G : gG} {h : gH} {a0 : Nat} {p1 : Int32} {p2 : Int32} {h1 : gH} (e : f_X6_countSymbol h a0 p1 p2 = some h1) : Ct l G M_X6_countSymbol [.ref a0, .int p1, .int p2] h none h1 := by
  refine Ct_of (L := [some (.ref a0), some (.int p1), some (.int p2)]) ok_X6_countSymbol (by decide +kernel) rfl rfl rfl (ρ := g_wU) (F := f_X6_countSymbol h a0 p1 p2) ?_ e rfl
  unfold f_X6_countSymbol
  refine X_aload_n rfl rfl rfl ?_
  refine X_dup rfl rfl rfl ?_
  refine X_getI rfl rfl (fun v2 => ?_)
  refine X_iconst (v := 1) rfl rfl (by decide) ?_
  refine X_iadd rfl rfl ?_
  refine X_put rfl rfl rfl rfl rfl (fun h7 => ?_)
  refine X_iload_n rfl rfl rfl ?_
  refine X_bif_eq rfl rfl (fun _ => ?_) (fun _ => ?_)
  · exact X_sub (g_sub_s (g_sub_n (g_sub_s g_sub_0))) (b_X6_countSymbol_b24  _ _ _)
  · refine X_aload_n rfl rfl rfl ?_
    refine X_dup rfl rfl rfl ?_
    refine X_getI rfl rfl (fun v16 => ?_)
    refine X_iconst (v := 1) rfl rfl (by decide) ?_
    refine X_iadd rfl rfl ?_
    refine X_put rfl rfl rfl rfl rfl (fun h21 => ?_)
    exact X_sub (g_sub_s (g_sub_n (g_sub_s g_sub_0))) (b_X6_countSymbol_b24  _ _ _)
def f_X6_makeStep_b55 (h : gH) (l0 : Nat) (l1 : Nat) (l2 : Nat) (l5 : Int32) (s0 : Int32) : Option gH :=
  bif g_is h l1 0 then
  (f_X0_becomeIdle h l1).bind fun h58 =>
  (g_gI h58 l0 6 4).bind fun v67 =>
  bif g_is h58 l2 3 then
  (f_X3_endTry h58 l2 l5 s0 v67).bind fun y70 =>
  (if y70.1 = 0 then
    some y70.2
  else
    (g_gI y70.2 l0 6 8).bind fun v78 =>
    (g_put y70.2 l0 6 8 (.int (v78 + 1))).bind fun h83 =>
    some h83)
  else none
  else none
def f_X6_makeStep_b54 (h : gH) (l0 : Nat) (l1 : Nat) (l2 : Nat) (l5 : Int32) : Option gH :=
  f_X6_makeStep_b55 h l0 l1 l2 l5 0
def f_X6_makeStep_b240 (h : gH) (l1 : Nat) : Option gH :=
  (g_gI h l1 0 4).bind fun v242 =>
  (g_put h l1 0 4 (.int (v242 + 1))).bind fun h247 =>
  some h247
def f_X6_makeStep_b96 (h : gH) (l0 : Nat) (l1 : Nat) (l2 : Nat) (l5 : Int32) (l6 : Int32) (l7 : Int32) : Option gH :=
  (g_gI h l1 0 4).bind fun v97 =>
  (if v97 = 0 then
    (g_put h l1 0 5 (.int (g_rem (l5 + l7) 26))).bind fun h112 =>
    f_X6_makeStep_b240 h112 l1
  else
    (g_gI h l1 0 4).bind fun v119 =>
    (if v119 ≤ l6 then
      bif g_is h l2 3 then
      (f_X3_firstPlaceOf h l2 l5).bind fun v131 =>
      (g_gI h l1 0 4).bind fun v135 =>
      bif g_is h l2 3 then
      (f_X3_letterAt h l2 ((v131 + v135) - 1)).bind fun v141 =>
      (g_gI h l2 3 0).bind fun v148 =>
      bif g_is h l0 6 then
      (f_X6_keepersOf h l0 v148).bind fun v151 =>
      (g_gI h l0 6 0).bind fun v155 =>
      bif g_is h v151 2 then
      (f_X2_keyAt h v151 v155).bind fun v158 =>
      (g_gI h l2 3 0).bind fun v164 =>
      bif g_is h l0 6 then
      (f_X6_keepersOf h l0 (1 - v164)).bind fun v168 =>
      (g_gI h l0 6 0).bind fun v172 =>
      bif g_is h v168 2 then
      (f_X2_keyAt h v168 v172).bind fun v175 =>
      (f_J9_floorMod_7cf53 h ((v141 + (v158 - v175)) + l7) 26).bind fun v192 =>
      bif g_is h l1 0 then
      (f_X0_hear h l1 v192).bind fun h195 =>
      f_X6_makeStep_b240 h195 l1
      else none
      else none
      else none
      else none
      else none
      else none
      else none
    else
      bif g_is h l2 3 then
      (f_X3_checkOf h l2 l5).bind fun v207 =>
      bif g_is h l1 0 then
      (f_X0_judge h l1 l6 (g_rem (v207 + l7) 26)).bind fun h216 =>
      (g_gI h216 l1 0 9).bind fun v220 =>
      (if v220 = 0 then
        f_X6_makeStep_b240 h216 l1
      else
        (g_gI h216 l1 0 5).bind fun v228 =>
        (g_gA h216 l1 0 7).bind fun v232 =>
        bif g_is h216 l2 3 then
        (f_X3_writeDown h216 l2 v228 v232 l6).bind fun h237 =>
        f_X6_makeStep_b240 h237 l1
        else none)
      else none
      else none))
def f_X6_makeStep_b24 (h : gH) (l0 : Nat) (l1 : Nat) (l2 : Nat) (l3 : Int32) (l4 : Int32) (l5 : Int32) (l6 : Int32) (s0 : Int32) : Option gH :=
  (g_gI h l1 0 4).bind fun v27 =>
  (if (l6 + 1) < v27 then
    (if l3 = 0 then
      (g_gI h l1 0 9).bind fun v42 =>
      (if v42 = l4 then
        f_X6_makeStep_b54 h l0 l1 l2 l5
      else
        f_X6_makeStep_b55 h l0 l1 l2 l5 1)
    else
      f_X6_makeStep_b54 h l0 l1 l2 l5)
  else
    (if l3 = 0 then
      f_X6_makeStep_b96 h l0 l1 l2 l5 l6 s0
    else
      (g_put h l1 0 8 (.int 1)).bind fun h93 =>
      f_X6_makeStep_b96 h93 l0 l1 l2 l5 l6 s0))
def f_X6_makeStep (h : gH) (a0 : Nat) (p1 : Nat) (p2 : Nat) (p3 : Int32) (p4 : Int32) : Option gH :=
  (g_gI h p1 0 3).bind fun v1 =>
  bif g_is h p2 3 then
  (f_X3_lettersIn h p2 v1).bind fun v9 =>
  (if p4 = 0 then
    f_X6_makeStep_b24 h a0 p1 p2 p3 p4 v1 v9 0
  else
    f_X6_makeStep_b24 h a0 p1 p2 p3 p4 v1 v9 1)
  else none
set_option maxRecDepth 100000 in
theorem b_X6_makeStep_b55 {l : Launch} {G : gG} (h : gH) (l0 : Nat) (l1 : Nat) (l2 : Nat) (l5 : Int32) (s0 : Int32) : GX l G M_X6_makeStep (g_phi G g_wU (m_R M_X6_makeStep).cells (m_R M_X6_makeStep).slots) 0 0 55 [some (.ref l0), some (.ref l1), some (.ref l2), none, none, some (.int l5), none, none, none, none] [.int s0] h (f_X6_makeStep_b55 h l0 l1 l2 l5 s0) := by
  unfold f_X6_makeStep_b55
  refine X_istore rfl rfl rfl rfl ?_
  refine X_aload_n rfl rfl rfl ?_
  refine X_callV_UW (M' := M_X0_becomeIdle) (nA := 0) (As := []) (st := []) (b := l1) (ci := 0) rfl rfl (by decide +kernel) rfl rfl rfl rfl rfl rfl rfl rfl (fun _ e => ct_X0_becomeIdle e) (fun h58 => ?_)
  refine X_aload_n rfl rfl rfl ?_
  refine X_iload rfl rfl rfl ?_
  refine X_iload rfl rfl rfl ?_
  refine X_aload_n rfl rfl rfl ?_
  refine X_getI rfl rfl (fun v67 => ?_)
  refine X_callV_IW (M' := M_X3_endTry) (nA := 3) (As := [.int l5, .int s0, .int v67]) (st := []) (b := l2) (ci := 3) rfl rfl (by decide +kernel) rfl rfl rfl rfl rfl rfl rfl rfl (fun _ _ e => ct_X3_endTry e) (fun y70 => ?_)
  refine X_bif_eq rfl rfl (fun _ => ?_) (fun _ => ?_)
  · exact X_vret rfl rfl rfl rfl rfl rfl
  · refine X_aload_n rfl rfl rfl ?_
    refine X_dup rfl rfl rfl ?_
    refine X_getI rfl rfl (fun v78 => ?_)
    refine X_iconst (v := 1) rfl rfl (by decide) ?_
    refine X_iadd rfl rfl ?_
    refine X_put rfl rfl rfl rfl rfl (fun h83 => ?_)
    exact X_vret rfl rfl rfl rfl rfl rfl
set_option maxRecDepth 100000 in
theorem b_X6_makeStep_b54 {l : Launch} {G : gG} (h : gH) (l0 : Nat) (l1 : Nat) (l2 : Nat) (l5 : Int32) : GX l G M_X6_makeStep (g_phi G g_wU (m_R M_X6_makeStep).cells (m_R M_X6_makeStep).slots) 0 0 54 [some (.ref l0), some (.ref l1), some (.ref l2), none, none, some (.int l5), none, none, none, none] [] h (f_X6_makeStep_b54 h l0 l1 l2 l5) := by
  unfold f_X6_makeStep_b54
  refine X_iconst (v := 0) rfl rfl (by decide) ?_
  exact X_sub (g_sub_s (g_sub_s (g_sub_s (g_sub_n (g_sub_n (g_sub_s (g_sub_n (g_sub_n (g_sub_n (g_sub_n g_sub_0)))))))))) (b_X6_makeStep_b55  _ _ _ _ _ _)
set_option maxRecDepth 100000 in
theorem b_X6_makeStep_b240 {l : Launch} {G : gG} (h : gH) (l1 : Nat) : GX l G M_X6_makeStep (g_phi G g_wU (m_R M_X6_makeStep).cells (m_R M_X6_makeStep).slots) 0 0 240 [none, some (.ref l1), none, none, none, none, none, none, none, none] [] h (f_X6_makeStep_b240 h l1) := by
  unfold f_X6_makeStep_b240
  refine X_aload_n rfl rfl rfl ?_
  refine X_dup rfl rfl rfl ?_
  refine X_getI rfl rfl (fun v242 => ?_)
  refine X_iconst (v := 1) rfl rfl (by decide) ?_
  refine X_iadd rfl rfl ?_
  refine X_put rfl rfl rfl rfl rfl (fun h247 => ?_)
  exact X_vret rfl rfl rfl rfl rfl rfl
set_option maxRecDepth 100000 in
theorem b_X6_makeStep_b96 {l : Launch} {G : gG} (h : gH) (l0 : Nat) (l1 : Nat) (l2 : Nat) (l5 : Int32) (l6 : Int32) (l7 : Int32) : GX l G M_X6_makeStep (g_phi G g_wU (m_R M_X6_makeStep).cells (m_R M_X6_makeStep).slots) 0 0 96 [some (.ref l0), some (.ref l1), some (.ref l2), none, none, some (.int l5), some (.int l6), some (.int l7), none, none] [] h (f_X6_makeStep_b96 h l0 l1 l2 l5 l6 l7) := by
  unfold f_X6_makeStep_b96
  refine X_aload_n rfl rfl rfl ?_
  refine X_getI rfl rfl (fun v97 => ?_)
  refine X_bif_ne rfl rfl (fun _ => ?_) (fun _ => ?_)
  · refine X_aload_n rfl rfl rfl ?_
    refine X_iload rfl rfl rfl ?_
    refine X_iload rfl rfl rfl ?_
    refine X_iadd rfl rfl ?_
    refine X_bipush (v := 26) rfl rfl (by decide) ?_
    refine X_irem (v := g_rem (l5 + l7) 26) rfl rfl rfl (by decide) ?_
    refine X_put rfl rfl rfl rfl rfl (fun h112 => ?_)
    refine X_goto rfl rfl ?_
    exact X_sub (g_sub_n (g_sub_s (g_sub_n (g_sub_n (g_sub_n (g_sub_n (g_sub_n (g_sub_n (g_sub_n (g_sub_n g_sub_0)))))))))) (b_X6_makeStep_b240  _ _)
  · refine X_aload_n rfl rfl rfl ?_
    refine X_getI rfl rfl (fun v119 => ?_)
    refine X_iload rfl rfl rfl ?_
    refine X_bicmp_gt rfl rfl (fun _ => ?_) (fun _ => ?_)
    · refine X_aload_n rfl rfl rfl ?_
      refine X_aload_n rfl rfl rfl ?_
      refine X_iload rfl rfl rfl ?_
      refine X_callV_IR (M' := M_X3_firstPlaceOf) (nA := 1) (As := [.int l5]) (st := [.ref l2]) (b := l2) (ci := 3) rfl rfl (by decide +kernel) rfl rfl rfl rfl rfl rfl rfl rfl (fun _ e => ct_X3_firstPlaceOf e) (fun v131 => ?_)
      refine X_aload_n rfl rfl rfl ?_
      refine X_getI rfl rfl (fun v135 => ?_)
      refine X_iadd rfl rfl ?_
      refine X_iconst (v := 1) rfl rfl (by decide) ?_
      refine X_isub rfl rfl ?_
      refine X_callV_IR (M' := M_X3_letterAt) (nA := 1) (As := [.int ((v131 + v135) - 1)]) (st := []) (b := l2) (ci := 3) rfl rfl (by decide +kernel) rfl rfl rfl rfl rfl rfl rfl rfl (fun _ e => ct_X3_letterAt e) (fun v141 => ?_)
      refine X_istore rfl rfl rfl rfl ?_
      refine X_aload_n rfl rfl rfl ?_
      refine X_aload_n rfl rfl rfl ?_
      refine X_getI rfl rfl (fun v148 => ?_)
      refine X_callV_AR (M' := M_X6_keepersOf) (nA := 1) (As := [.int v148]) (st := []) (b := l0) (ci := 6) rfl rfl (by decide +kernel) rfl rfl rfl rfl rfl rfl rfl rfl (fun _ e => ct_X6_keepersOf e) (fun v151 => ?_)
      refine X_aload_n rfl rfl rfl ?_
      refine X_getI rfl rfl (fun v155 => ?_)
      refine X_callV_IR (M' := M_X2_keyAt) (nA := 1) (As := [.int v155]) (st := []) (b := v151) (ci := 2) rfl rfl (by decide +kernel) rfl rfl rfl rfl rfl rfl rfl rfl (fun _ e => ct_X2_keyAt e) (fun v158 => ?_)
      refine X_aload_n rfl rfl rfl ?_
      refine X_iconst (v := 1) rfl rfl (by decide) ?_
      refine X_aload_n rfl rfl rfl ?_
      refine X_getI rfl rfl (fun v164 => ?_)
      refine X_isub rfl rfl ?_
      refine X_callV_AR (M' := M_X6_keepersOf) (nA := 1) (As := [.int (1 - v164)]) (st := [.int v158]) (b := l0) (ci := 6) rfl rfl (by decide +kernel) rfl rfl rfl rfl rfl rfl rfl rfl (fun _ e => ct_X6_keepersOf e) (fun v168 => ?_)
      refine X_aload_n rfl rfl rfl ?_
      refine X_getI rfl rfl (fun v172 => ?_)
      refine X_callV_IR (M' := M_X2_keyAt) (nA := 1) (As := [.int v172]) (st := [.int v158]) (b := v168) (ci := 2) rfl rfl (by decide +kernel) rfl rfl rfl rfl rfl rfl rfl rfl (fun _ e => ct_X2_keyAt e) (fun v175 => ?_)
      refine X_isub rfl rfl ?_
      refine X_istore rfl rfl rfl rfl ?_
      refine X_aload_n rfl rfl rfl ?_
      refine X_iload rfl rfl rfl ?_
      refine X_iload rfl rfl rfl ?_
      refine X_iadd rfl rfl ?_
      refine X_iload rfl rfl rfl ?_
      refine X_iadd rfl rfl ?_
      refine X_bipush (v := 26) rfl rfl (by decide) ?_
      refine X_callS_IR (M' := M_J9_floorMod_7cf53) (nA := 2) (As := [.int ((v141 + (v158 - v175)) + l7), .int 26]) (st := [.ref l1]) rfl rfl (by decide +kernel) rfl rfl rfl rfl rfl rfl rfl (fun _ e => ct_J9_floorMod_7cf53 e) (fun v192 => ?_)
      refine X_callV_UW (M' := M_X0_hear) (nA := 1) (As := [.int v192]) (st := []) (b := l1) (ci := 0) rfl rfl (by decide +kernel) rfl rfl rfl rfl rfl rfl rfl rfl (fun _ e => ct_X0_hear e) (fun h195 => ?_)
      refine X_goto rfl rfl ?_
      exact X_sub (g_sub_n (g_sub_s (g_sub_n (g_sub_n (g_sub_n (g_sub_n (g_sub_n (g_sub_n (g_sub_n (g_sub_n g_sub_0)))))))))) (b_X6_makeStep_b240  _ _)
    · refine X_aload_n rfl rfl rfl ?_
      refine X_iload rfl rfl rfl ?_
      refine X_aload_n rfl rfl rfl ?_
      refine X_iload rfl rfl rfl ?_
      refine X_callV_IR (M' := M_X3_checkOf) (nA := 1) (As := [.int l5]) (st := [.int l6, .ref l1]) (b := l2) (ci := 3) rfl rfl (by decide +kernel) rfl rfl rfl rfl rfl rfl rfl rfl (fun _ e => ct_X3_checkOf e) (fun v207 => ?_)
      refine X_iload rfl rfl rfl ?_
      refine X_iadd rfl rfl ?_
      refine X_bipush (v := 26) rfl rfl (by decide) ?_
      refine X_irem (v := g_rem (v207 + l7) 26) rfl rfl rfl (by decide) ?_
      refine X_callV_UW (M' := M_X0_judge) (nA := 2) (As := [.int l6, .int (g_rem (v207 + l7) 26)]) (st := []) (b := l1) (ci := 0) rfl rfl (by decide +kernel) rfl rfl rfl rfl rfl rfl rfl rfl (fun _ e => ct_X0_judge e) (fun h216 => ?_)
      refine X_aload_n rfl rfl rfl ?_
      refine X_getI rfl rfl (fun v220 => ?_)
      refine X_bif_eq rfl rfl (fun _ => ?_) (fun _ => ?_)
      · exact X_sub (g_sub_n (g_sub_s (g_sub_n (g_sub_n (g_sub_n (g_sub_n (g_sub_n (g_sub_n (g_sub_n (g_sub_n g_sub_0)))))))))) (b_X6_makeStep_b240  _ _)
      · refine X_aload_n rfl rfl rfl ?_
        refine X_aload_n rfl rfl rfl ?_
        refine X_getI rfl rfl (fun v228 => ?_)
        refine X_aload_n rfl rfl rfl ?_
        refine X_getA rfl rfl (fun v232 => ?_)
        refine X_iload rfl rfl rfl ?_
        refine X_callV_UW (M' := M_X3_writeDown) (nA := 3) (As := [.int v228, .ref v232, .int l6]) (st := []) (b := l2) (ci := 3) rfl rfl (by decide +kernel) rfl rfl rfl rfl rfl rfl rfl rfl (fun _ e => ct_X3_writeDown e) (fun h237 => ?_)
        exact X_sub (g_sub_n (g_sub_s (g_sub_n (g_sub_n (g_sub_n (g_sub_n (g_sub_n (g_sub_n (g_sub_n (g_sub_n g_sub_0)))))))))) (b_X6_makeStep_b240  _ _)
set_option maxRecDepth 100000 in
theorem b_X6_makeStep_b24 {l : Launch} {G : gG} (h : gH) (l0 : Nat) (l1 : Nat) (l2 : Nat) (l3 : Int32) (l4 : Int32) (l5 : Int32) (l6 : Int32) (s0 : Int32) : GX l G M_X6_makeStep (g_phi G g_wU (m_R M_X6_makeStep).cells (m_R M_X6_makeStep).slots) 0 0 24 [some (.ref l0), some (.ref l1), some (.ref l2), some (.int l3), some (.int l4), some (.int l5), some (.int l6), none, none, none] [.int s0] h (f_X6_makeStep_b24 h l0 l1 l2 l3 l4 l5 l6 s0) := by
  unfold f_X6_makeStep_b24
  refine X_istore rfl rfl rfl rfl ?_
  refine X_aload_n rfl rfl rfl ?_
  refine X_getI rfl rfl (fun v27 => ?_)
  refine X_iload rfl rfl rfl ?_
  refine X_iconst (v := 1) rfl rfl (by decide) ?_
  refine X_iadd rfl rfl ?_
  refine X_bicmp_le rfl rfl (fun _ => ?_) (fun _ => ?_)
  · refine X_iload_n rfl rfl rfl ?_
    refine X_bif_ne rfl rfl (fun _ => ?_) (fun _ => ?_)
    · refine X_aload_n rfl rfl rfl ?_
      refine X_getI rfl rfl (fun v42 => ?_)
      refine X_iload rfl rfl rfl ?_
      refine X_bicmp_eq rfl rfl (fun _ => ?_) (fun _ => ?_)
      · exact X_sub (g_sub_s (g_sub_s (g_sub_s (g_sub_n (g_sub_n (g_sub_s (g_sub_n (g_sub_n (g_sub_n (g_sub_n g_sub_0)))))))))) (b_X6_makeStep_b54  _ _ _ _ _)
      · refine X_iconst (v := 1) rfl rfl (by decide) ?_
        refine X_goto rfl rfl ?_
        exact X_sub (g_sub_s (g_sub_s (g_sub_s (g_sub_n (g_sub_n (g_sub_s (g_sub_n (g_sub_n (g_sub_n (g_sub_n g_sub_0)))))))))) (b_X6_makeStep_b55  _ _ _ _ _ _)
    · exact X_sub (g_sub_s (g_sub_s (g_sub_s (g_sub_n (g_sub_n (g_sub_s (g_sub_n (g_sub_n (g_sub_n (g_sub_n g_sub_0)))))))))) (b_X6_makeStep_b54  _ _ _ _ _)
  · refine X_iload_n rfl rfl rfl ?_
    refine X_bif_eq rfl rfl (fun _ => ?_) (fun _ => ?_)
    · exact X_sub (g_sub_s (g_sub_s (g_sub_s (g_sub_n (g_sub_n (g_sub_s (g_sub_s (g_sub_s (g_sub_n (g_sub_n g_sub_0)))))))))) (b_X6_makeStep_b96  _ _ _ _ _ _ _)
    · refine X_aload_n rfl rfl rfl ?_
      refine X_iconst (v := 1) rfl rfl (by decide) ?_
      refine X_put rfl rfl rfl rfl rfl (fun h93 => ?_)
      exact X_sub (g_sub_s (g_sub_s (g_sub_s (g_sub_n (g_sub_n (g_sub_s (g_sub_s (g_sub_s (g_sub_n (g_sub_n g_sub_0)))))))))) (b_X6_makeStep_b96  _ _ _ _ _ _ _)
set_option maxRecDepth 100000 in
theorem ct_X6_makeStep {l : Launch} {G : gG} {h : gH} {a0 : Nat} {p1 : Nat} {p2 : Nat} {p3 : Int32} {p4 : Int32} {h1 : gH} (e : f_X6_makeStep h a0 p1 p2 p3 p4 = some h1) : Ct l G M_X6_makeStep [.ref a0, .ref p1, .ref p2, .int p3, .int p4] h none h1 := by
  refine Ct_of (L := [some (.ref a0), some (.ref p1), some (.ref p2), some (.int p3), some (.int p4), none, none, none, none, none]) ok_X6_makeStep (by decide +kernel) rfl rfl rfl (ρ := g_wU) (F := f_X6_makeStep h a0 p1 p2 p3 p4) ?_ e rfl
  unfold f_X6_makeStep
  refine X_aload_n rfl rfl rfl ?_
  refine X_getI rfl rfl (fun v1 => ?_)
  refine X_istore rfl rfl rfl rfl ?_
  refine X_aload_n rfl rfl rfl ?_
  refine X_iload rfl rfl rfl ?_
  refine X_callV_IR (M' := M_X3_lettersIn) (nA := 1) (As := [.int v1]) (st := []) (b := p2) (ci := 3) rfl rfl (by decide +kernel) rfl rfl rfl rfl rfl rfl rfl rfl (fun _ e => ct_X3_lettersIn e) (fun v9 => ?_)
  refine X_istore rfl rfl rfl rfl ?_
  refine X_iload rfl rfl rfl ?_
  refine X_bif_eq rfl rfl (fun _ => ?_) (fun _ => ?_)
  · refine X_iconst (v := 0) rfl rfl (by decide) ?_
    exact X_sub (g_sub_s (g_sub_s (g_sub_s (g_sub_s (g_sub_s (g_sub_s (g_sub_s (g_sub_n (g_sub_n (g_sub_n g_sub_0)))))))))) (b_X6_makeStep_b24  _ _ _ _ _ _ _ _ _)
  · refine X_iconst (v := 1) rfl rfl (by decide) ?_
    refine X_goto rfl rfl ?_
    exact X_sub (g_sub_s (g_sub_s (g_sub_s (g_sub_s (g_sub_s (g_sub_s (g_sub_s (g_sub_n (g_sub_n (g_sub_n g_sub_0)))))))))) (b_X6_makeStep_b24  _ _ _ _ _ _ _ _ _)
def f_X6_serve_b80 (h : gH) (l0 : Nat) (l1 : Nat) (l3 : Nat) (l4 : Int32) (s0 : Int32) : Option gH :=
  bif g_is h l0 6 then
  (f_X6_countSymbol h l0 l4 s0).bind fun h87 =>
  bif g_is h87 l0 6 then
  (f_X6_makeStep h87 l0 l1 l3 l4 s0).bind fun h97 =>
  (g_gI h97 l3 3 8).bind fun v101 =>
  (if v101 = 0 then
    (g_gI h97 l0 6 0).bind fun v110 =>
    bif g_is h97 l3 3 then
    (f_X3_end h97 l3 2 v110).bind fun h113 =>
    (g_put h113 l0 6 2 (.int (-1))).bind fun h118 =>
    some h118
    else none
  else
    some h97)
  else none
  else none
def f_X6_serve_b65 (h : gH) (l0 : Nat) (l1 : Nat) (l2 : Int32) (l3 : Nat) (s0 : Int32) : Option gH :=
  (g_gI h l1 0 0).bind fun v69 =>
  (if l2 = v69 then
    f_X6_serve_b80 h l0 l1 l3 s0 1
  else
    f_X6_serve_b80 h l0 l1 l3 s0 0)
def f_X6_serve_b44 (h : gH) (l0 : Nat) (l1 : Nat) (l2 : Int32) (l3 : Nat) : Option gH :=
  bif g_is h l1 0 then
  (f_X0_isIdle h l1).bind fun v45 =>
  (if v45 = 0 then
    (g_gI h l1 0 0).bind fun v54 =>
    (if v54 < l2 then
      f_X6_serve_b65 h l0 l1 l2 l3 1
    else
      f_X6_serve_b65 h l0 l1 l2 l3 0)
  else
    some h)
  else none
def f_X6_serve (h : gH) (a0 : Nat) (p1 : Nat) (p2 : Int32) : Option gH :=
  (g_gI h a0 6 2).bind fun v1 =>
  (if v1 = (-1) then
    some h
  else
    (g_gI h a0 6 0).bind fun v10 =>
    bif g_is h p1 0 then
    (f_X0_isOpenAt h p1 v10).bind fun v13 =>
    (if v13 = 0 then
      some h
    else
      (g_gI h a0 6 2).bind fun v22 =>
      bif g_is h a0 6 then
      (f_X6_messageNumbered h a0 v22).bind fun v25 =>
      bif g_is h p1 0 then
      (f_X0_isIdle h p1).bind fun v30 =>
      (if v30 = 0 then
        f_X6_serve_b44 h a0 p1 p2 v25
      else
        bif g_is h v25 3 then
        (f_X3_takeOpenFrame h v25).bind fun y38 =>
        bif g_is y38.2 p1 0 then
        (f_X0_take y38.2 p1 y38.1).bind fun h41 =>
        f_X6_serve_b44 h41 a0 p1 p2 v25
        else none
        else none)
      else none
      else none)
    else none)
set_option maxRecDepth 100000 in
theorem b_X6_serve_b80 {l : Launch} {G : gG} (h : gH) (l0 : Nat) (l1 : Nat) (l3 : Nat) (l4 : Int32) (s0 : Int32) : GX l G M_X6_serve (g_phi G g_wU (m_R M_X6_serve).cells (m_R M_X6_serve).slots) 0 0 80 [some (.ref l0), some (.ref l1), none, some (.ref l3), some (.int l4), none] [.int s0] h (f_X6_serve_b80 h l0 l1 l3 l4 s0) := by
  unfold f_X6_serve_b80
  refine X_istore rfl rfl rfl rfl ?_
  refine X_aload_n rfl rfl rfl ?_
  refine X_iload rfl rfl rfl ?_
  refine X_iload rfl rfl rfl ?_
  refine X_callV_UW (M' := M_X6_countSymbol) (nA := 2) (As := [.int l4, .int s0]) (st := []) (b := l0) (ci := 6) rfl rfl (by decide +kernel) rfl rfl rfl rfl rfl rfl rfl rfl (fun _ e => ct_X6_countSymbol e) (fun h87 => ?_)
  refine X_aload_n rfl rfl rfl ?_
  refine X_aload_n rfl rfl rfl ?_
  refine X_aload_n rfl rfl rfl ?_
  refine X_iload rfl rfl rfl ?_
  refine X_iload rfl rfl rfl ?_
  refine X_callV_UW (M' := M_X6_makeStep) (nA := 4) (As := [.ref l1, .ref l3, .int l4, .int s0]) (st := []) (b := l0) (ci := 6) rfl rfl (by decide +kernel) rfl rfl rfl rfl rfl rfl rfl rfl (fun _ e => ct_X6_makeStep e) (fun h97 => ?_)
  refine X_aload_n rfl rfl rfl ?_
  refine X_getI rfl rfl (fun v101 => ?_)
  refine X_bif_ne rfl rfl (fun _ => ?_) (fun _ => ?_)
  · refine X_aload_n rfl rfl rfl ?_
    refine X_iconst (v := 2) rfl rfl (by decide) ?_
    refine X_aload_n rfl rfl rfl ?_
    refine X_getI rfl rfl (fun v110 => ?_)
    refine X_callV_UW (M' := M_X3_end) (nA := 2) (As := [.int 2, .int v110]) (st := []) (b := l3) (ci := 3) rfl rfl (by decide +kernel) rfl rfl rfl rfl rfl rfl rfl rfl (fun _ e => ct_X3_end e) (fun h113 => ?_)
    refine X_aload_n rfl rfl rfl ?_
    refine X_iconst (v := -1) rfl rfl (by decide) ?_
    refine X_put rfl rfl rfl rfl rfl (fun h118 => ?_)
    exact X_vret rfl rfl rfl rfl rfl rfl
  · exact X_vret rfl rfl rfl rfl rfl rfl
set_option maxRecDepth 100000 in
theorem b_X6_serve_b65 {l : Launch} {G : gG} (h : gH) (l0 : Nat) (l1 : Nat) (l2 : Int32) (l3 : Nat) (s0 : Int32) : GX l G M_X6_serve (g_phi G g_wU (m_R M_X6_serve).cells (m_R M_X6_serve).slots) 0 0 65 [some (.ref l0), some (.ref l1), some (.int l2), some (.ref l3), none, none] [.int s0] h (f_X6_serve_b65 h l0 l1 l2 l3 s0) := by
  unfold f_X6_serve_b65
  refine X_istore rfl rfl rfl rfl ?_
  refine X_iload_n rfl rfl rfl ?_
  refine X_aload_n rfl rfl rfl ?_
  refine X_getI rfl rfl (fun v69 => ?_)
  refine X_bicmp_ne rfl rfl (fun _ => ?_) (fun _ => ?_)
  · refine X_iconst (v := 1) rfl rfl (by decide) ?_
    refine X_goto rfl rfl ?_
    exact X_sub (g_sub_s (g_sub_s (g_sub_n (g_sub_s (g_sub_s (g_sub_n g_sub_0)))))) (b_X6_serve_b80  _ _ _ _ _ _)
  · refine X_iconst (v := 0) rfl rfl (by decide) ?_
    exact X_sub (g_sub_s (g_sub_s (g_sub_n (g_sub_s (g_sub_s (g_sub_n g_sub_0)))))) (b_X6_serve_b80  _ _ _ _ _ _)
set_option maxRecDepth 100000 in
theorem b_X6_serve_b44 {l : Launch} {G : gG} (h : gH) (l0 : Nat) (l1 : Nat) (l2 : Int32) (l3 : Nat) : GX l G M_X6_serve (g_phi G g_wU (m_R M_X6_serve).cells (m_R M_X6_serve).slots) 0 0 44 [some (.ref l0), some (.ref l1), some (.int l2), some (.ref l3), none, none] [] h (f_X6_serve_b44 h l0 l1 l2 l3) := by
  unfold f_X6_serve_b44
  refine X_aload_n rfl rfl rfl ?_
  refine X_callV_IR (M' := M_X0_isIdle) (nA := 0) (As := []) (st := []) (b := l1) (ci := 0) rfl rfl (by decide +kernel) rfl rfl rfl rfl rfl rfl rfl rfl (fun _ e => ct_X0_isIdle e) (fun v45 => ?_)
  refine X_bif_eq rfl rfl (fun _ => ?_) (fun _ => ?_)
  · refine X_iload_n rfl rfl rfl ?_
    refine X_aload_n rfl rfl rfl ?_
    refine X_getI rfl rfl (fun v54 => ?_)
    refine X_bicmp_le rfl rfl (fun _ => ?_) (fun _ => ?_)
    · refine X_iconst (v := 1) rfl rfl (by decide) ?_
      refine X_goto rfl rfl ?_
      exact X_sub (g_sub_s (g_sub_s (g_sub_s (g_sub_s (g_sub_n (g_sub_n g_sub_0)))))) (b_X6_serve_b65  _ _ _ _ _ _)
    · refine X_iconst (v := 0) rfl rfl (by decide) ?_
      exact X_sub (g_sub_s (g_sub_s (g_sub_s (g_sub_s (g_sub_n (g_sub_n g_sub_0)))))) (b_X6_serve_b65  _ _ _ _ _ _)
  · exact X_vret rfl rfl rfl rfl rfl rfl
set_option maxRecDepth 100000 in
theorem ct_X6_serve {l : Launch} {G : gG} {h : gH} {a0 : Nat} {p1 : Nat} {p2 : Int32} {h1 : gH} (e : f_X6_serve h a0 p1 p2 = some h1) : Ct l G M_X6_serve [.ref a0, .ref p1, .int p2] h none h1 := by
  refine Ct_of (L := [some (.ref a0), some (.ref p1), some (.int p2), none, none, none]) ok_X6_serve (by decide +kernel) rfl rfl rfl (ρ := g_wU) (F := f_X6_serve h a0 p1 p2) ?_ e rfl
  unfold f_X6_serve
  refine X_aload_n rfl rfl rfl ?_
  refine X_getI rfl rfl (fun v1 => ?_)
  refine X_iconst (v := -1) rfl rfl (by decide) ?_
  refine X_bicmp_eq rfl rfl (fun _ => ?_) (fun _ => ?_)
  · exact X_vret rfl rfl rfl rfl rfl rfl
  · refine X_aload_n rfl rfl rfl ?_
    refine X_aload_n rfl rfl rfl ?_
    refine X_getI rfl rfl (fun v10 => ?_)
    refine X_callV_IR (M' := M_X0_isOpenAt) (nA := 1) (As := [.int v10]) (st := []) (b := p1) (ci := 0) rfl rfl (by decide +kernel) rfl rfl rfl rfl rfl rfl rfl rfl (fun _ e => ct_X0_isOpenAt e) (fun v13 => ?_)
    refine X_bif_ne rfl rfl (fun _ => ?_) (fun _ => ?_)
    · exact X_vret rfl rfl rfl rfl rfl rfl
    · refine X_aload_n rfl rfl rfl ?_
      refine X_aload_n rfl rfl rfl ?_
      refine X_getI rfl rfl (fun v22 => ?_)
      refine X_callV_AR (M' := M_X6_messageNumbered) (nA := 1) (As := [.int v22]) (st := []) (b := a0) (ci := 6) rfl rfl (by decide +kernel) rfl rfl rfl rfl rfl rfl rfl rfl (fun _ e => ct_X6_messageNumbered e) (fun v25 => ?_)
      refine X_astore_n rfl rfl rfl rfl ?_
      refine X_aload_n rfl rfl rfl ?_
      refine X_callV_IR (M' := M_X0_isIdle) (nA := 0) (As := []) (st := []) (b := p1) (ci := 0) rfl rfl (by decide +kernel) rfl rfl rfl rfl rfl rfl rfl rfl (fun _ e => ct_X0_isIdle e) (fun v30 => ?_)
      refine X_bif_eq rfl rfl (fun _ => ?_) (fun _ => ?_)
      · exact X_sub (g_sub_s (g_sub_s (g_sub_s (g_sub_s (g_sub_n (g_sub_n g_sub_0)))))) (b_X6_serve_b44  _ _ _ _ _)
      · refine X_aload_n rfl rfl rfl ?_
        refine X_aload_n rfl rfl rfl ?_
        refine X_callV_IW (M' := M_X3_takeOpenFrame) (nA := 0) (As := []) (st := [.ref p1]) (b := v25) (ci := 3) rfl rfl (by decide +kernel) rfl rfl rfl rfl rfl rfl rfl rfl (fun _ _ e => ct_X3_takeOpenFrame e) (fun y38 => ?_)
        refine X_callV_UW (M' := M_X0_take) (nA := 1) (As := [.int y38.1]) (st := []) (b := p1) (ci := 0) rfl rfl (by decide +kernel) rfl rfl rfl rfl rfl rfl rfl rfl (fun _ e => ct_X0_take e) (fun h41 => ?_)
        exact X_sub (g_sub_s (g_sub_s (g_sub_s (g_sub_s (g_sub_n (g_sub_n g_sub_0)))))) (b_X6_serve_b44  _ _ _ _ _)
def f_X6_letTickPass_b52 (h : gH) (l0 : Nat) (l1 : Int32) : Option (Int32 × gH) :=
  (g_gI h l0 6 0).bind fun v54 =>
  (g_put h l0 6 0 (.int (v54 + 1))).bind fun h59 =>
  (g_gI h59 l0 6 2).bind fun v63 =>
  (if v63 = (-1) then
    some (l1, h59)
  else
    some (-1, h59))
def f_X6_letTickPass_b12 (h : gH) (l0 : Nat) : Option (Int32 × gH) :=
  (g_gI h l0 6 2).bind fun v13 =>
  (if v13 = (-1) then
    f_X6_letTickPass_b52 h l0 v13
  else
    (g_gA h l0 6 15).bind fun v23 =>
    (g_gI h l0 6 0).bind fun v27 =>
    bif g_is h v23 4 then
    (f_X4_levelAt h v23 v27).bind fun v30 =>
    (g_gA h l0 6 11).bind fun v36 =>
    bif g_is h l0 6 then
    (f_X6_serve h l0 v36 v30).bind fun h40 =>
    (g_gA h40 l0 6 12).bind fun v45 =>
    bif g_is h40 l0 6 then
    (f_X6_serve h40 l0 v45 v30).bind fun h49 =>
    f_X6_letTickPass_b52 h49 l0 v13
    else none
    else none
    else none)
def f_X6_letTickPass (h : gH) (a0 : Nat) : Option (Int32 × gH) :=
  (g_gI h a0 6 2).bind fun v1 =>
  (if v1 = (-1) then
    bif g_is h a0 6 then
    (f_X6_startFirstWaiting h a0).bind fun h9 =>
    f_X6_letTickPass_b12 h9 a0
    else none
  else
    f_X6_letTickPass_b12 h a0)
set_option maxRecDepth 100000 in
theorem b_X6_letTickPass_b52 {l : Launch} {G : gG} (h : gH) (l0 : Nat) (l1 : Int32) : GX l G M_X6_letTickPass (g_phi G g_wI (m_R M_X6_letTickPass).cells (m_R M_X6_letTickPass).slots) 0 0 52 [some (.ref l0), some (.int l1), none] [] h (f_X6_letTickPass_b52 h l0 l1) := by
  unfold f_X6_letTickPass_b52
  refine X_aload_n rfl rfl rfl ?_
  refine X_dup rfl rfl rfl ?_
  refine X_getI rfl rfl (fun v54 => ?_)
  refine X_iconst (v := 1) rfl rfl (by decide) ?_
  refine X_iadd rfl rfl ?_
  refine X_put rfl rfl rfl rfl rfl (fun h59 => ?_)
  refine X_aload_n rfl rfl rfl ?_
  refine X_getI rfl rfl (fun v63 => ?_)
  refine X_iconst (v := -1) rfl rfl (by decide) ?_
  refine X_bicmp_ne rfl rfl (fun _ => ?_) (fun _ => ?_)
  · refine X_iload_n rfl rfl rfl ?_
    refine X_goto rfl rfl ?_
    exact X_iret rfl rfl rfl rfl rfl rfl rfl
  · refine X_iconst (v := -1) rfl rfl (by decide) ?_
    exact X_iret rfl rfl rfl rfl rfl rfl rfl
set_option maxRecDepth 100000 in
theorem b_X6_letTickPass_b12 {l : Launch} {G : gG} (h : gH) (l0 : Nat) : GX l G M_X6_letTickPass (g_phi G g_wI (m_R M_X6_letTickPass).cells (m_R M_X6_letTickPass).slots) 0 0 12 [some (.ref l0), none, none] [] h (f_X6_letTickPass_b12 h l0) := by
  unfold f_X6_letTickPass_b12
  refine X_aload_n rfl rfl rfl ?_
  refine X_getI rfl rfl (fun v13 => ?_)
  refine X_istore_n rfl rfl rfl rfl ?_
  refine X_iload_n rfl rfl rfl ?_
  refine X_iconst (v := -1) rfl rfl (by decide) ?_
  refine X_bicmp_eq rfl rfl (fun _ => ?_) (fun _ => ?_)
  · exact X_sub (g_sub_s (g_sub_s (g_sub_n g_sub_0))) (b_X6_letTickPass_b52  _ _ _)
  · refine X_aload_n rfl rfl rfl ?_
    refine X_getA rfl rfl (fun v23 => ?_)
    refine X_aload_n rfl rfl rfl ?_
    refine X_getI rfl rfl (fun v27 => ?_)
    refine X_callV_IR (M' := M_X4_levelAt) (nA := 1) (As := [.int v27]) (st := []) (b := v23) (ci := 4) rfl rfl (by decide +kernel) rfl rfl rfl rfl rfl rfl rfl rfl (fun _ e => ct_X4_levelAt e) (fun v30 => ?_)
    refine X_istore_n rfl rfl rfl rfl ?_
    refine X_aload_n rfl rfl rfl ?_
    refine X_aload_n rfl rfl rfl ?_
    refine X_getA rfl rfl (fun v36 => ?_)
    refine X_iload_n rfl rfl rfl ?_
    refine X_callV_UW (M' := M_X6_serve) (nA := 2) (As := [.ref v36, .int v30]) (st := []) (b := l0) (ci := 6) rfl rfl (by decide +kernel) rfl rfl rfl rfl rfl rfl rfl rfl (fun _ e => ct_X6_serve e) (fun h40 => ?_)
    refine X_aload_n rfl rfl rfl ?_
    refine X_aload_n rfl rfl rfl ?_
    refine X_getA rfl rfl (fun v45 => ?_)
    refine X_iload_n rfl rfl rfl ?_
    refine X_callV_UW (M' := M_X6_serve) (nA := 2) (As := [.ref v45, .int v30]) (st := []) (b := l0) (ci := 6) rfl rfl (by decide +kernel) rfl rfl rfl rfl rfl rfl rfl rfl (fun _ e => ct_X6_serve e) (fun h49 => ?_)
    exact X_sub (g_sub_s (g_sub_s (g_sub_n g_sub_0))) (b_X6_letTickPass_b52  _ _ _)
set_option maxRecDepth 100000 in
theorem ct_X6_letTickPass {l : Launch} {G : gG} {h : gH} {a0 : Nat} {r : Int32} {h1 : gH} (e : f_X6_letTickPass h a0 = some (r, h1)) : Ct l G M_X6_letTickPass [.ref a0] h (some (.int r)) h1 := by
  refine Ct_of (L := [some (.ref a0), none, none]) ok_X6_letTickPass (by decide +kernel) rfl rfl rfl (ρ := g_wI) (F := f_X6_letTickPass h a0) ?_ e rfl
  unfold f_X6_letTickPass
  refine X_aload_n rfl rfl rfl ?_
  refine X_getI rfl rfl (fun v1 => ?_)
  refine X_iconst (v := -1) rfl rfl (by decide) ?_
  refine X_bicmp_ne rfl rfl (fun _ => ?_) (fun _ => ?_)
  · refine X_aload_n rfl rfl rfl ?_
    refine X_callV_UW (M' := M_X6_startFirstWaiting) (nA := 0) (As := []) (st := []) (b := a0) (ci := 6) rfl rfl (by decide +kernel) rfl rfl rfl rfl rfl rfl rfl rfl (fun _ e => ct_X6_startFirstWaiting e) (fun h9 => ?_)
    exact X_sub (g_sub_s (g_sub_n (g_sub_n g_sub_0))) (b_X6_letTickPass_b12  _ _)
  · exact X_sub (g_sub_s (g_sub_n (g_sub_n g_sub_0))) (b_X6_letTickPass_b12  _ _)
def f_X6_letForetoldTicksPass_b49 (h : gH) (l0 : Nat) : Option (Int32 × gH) :=
  bif g_is h l0 6 then
  (f_X6_isBusy h l0).bind fun v50 =>
  (if v50 = 0 then
    some (1, h)
  else
    some (0, h))
  else none
def f_X6_letForetoldTicksPass_b43 (K2 : gH → Nat → Int32 → Int32 → Option (Int32 × gH)) (h : gH) (l0 : Nat) (l1 : Int32) (l2 : Int32) : Option (Int32 × gH) :=
  K2 h l0 l1 (l2 + 1)
def f_X6_letForetoldTicksPass_b2 : Nat → gH → Nat → Int32 → Int32 → Option (Int32 × gH)
  | 0, _, _, _, _ => none
  | n + 1, h, l0, l1, l2 =>
    (if l2 < 1000 then
      bif g_is h l0 6 then
      (f_X6_isBusy h l0).bind fun v10 =>
      (if v10 = 0 then
        f_X6_letForetoldTicksPass_b49 h l0
      else
        bif g_is h l0 6 then
        (f_X6_letTickPass h l0).bind fun y17 =>
        (if l1 = 0 then
          f_X6_letForetoldTicksPass_b43 (f_X6_letForetoldTicksPass_b2  n) y17.2 l0 l1 l2
        else
          (if y17.1 = (-1) then
            f_X6_letForetoldTicksPass_b43 (f_X6_letForetoldTicksPass_b2  n) y17.2 l0 l1 l2
          else
            bif g_is y17.2 l0 6 then
            (f_X6_messageNumbered y17.2 l0 y17.1).bind fun v32 =>
            bif g_is y17.2 v32 3 then
            (f_X3_agrees y17.2 v32).bind fun v35 =>
            (if v35 = 0 then
              some (0, y17.2)
            else
              f_X6_letForetoldTicksPass_b43 (f_X6_letForetoldTicksPass_b2  n) y17.2 l0 l1 l2)
            else none
            else none))
        else none)
      else none
    else
      f_X6_letForetoldTicksPass_b49 h l0)
def f_X6_letForetoldTicksPass (h : gH) (a0 : Nat) (p1 : Int32) : Option (Int32 × gH) :=
  f_X6_letForetoldTicksPass_b2 g_N h a0 p1 0
set_option maxRecDepth 100000 in
theorem b_X6_letForetoldTicksPass_b49 {l : Launch} {G : gG} (h : gH) (l0 : Nat) : GX l G M_X6_letForetoldTicksPass (g_phi G g_wI (m_R M_X6_letForetoldTicksPass).cells (m_R M_X6_letForetoldTicksPass).slots) 0 0 49 [some (.ref l0), none, none, none] [] h (f_X6_letForetoldTicksPass_b49 h l0) := by
  unfold f_X6_letForetoldTicksPass_b49
  refine X_aload_n rfl rfl rfl ?_
  refine X_callV_IR (M' := M_X6_isBusy) (nA := 0) (As := []) (st := []) (b := l0) (ci := 6) rfl rfl (by decide +kernel) rfl rfl rfl rfl rfl rfl rfl rfl (fun _ e => ct_X6_isBusy e) (fun v50 => ?_)
  refine X_bif_ne rfl rfl (fun _ => ?_) (fun _ => ?_)
  · refine X_iconst (v := 1) rfl rfl (by decide) ?_
    refine X_goto rfl rfl ?_
    exact X_iret rfl rfl rfl rfl rfl rfl rfl
  · refine X_iconst (v := 0) rfl rfl (by decide) ?_
    exact X_iret rfl rfl rfl rfl rfl rfl rfl
set_option maxRecDepth 100000 in
theorem b_X6_letForetoldTicksPass_b43 {l : Launch} {G : gG} {K2 : gH → Nat → Int32 → Int32 → Option (Int32 × gH)} (hK2 : ∀ (h : gH) (l0 : Nat) (l1 : Int32) (l2 : Int32), GX l G M_X6_letForetoldTicksPass (g_phi G g_wI (m_R M_X6_letForetoldTicksPass).cells (m_R M_X6_letForetoldTicksPass).slots) 0 0 2 [some (.ref l0), some (.int l1), some (.int l2), none] [] h (K2 h l0 l1 l2)) (h : gH) (l0 : Nat) (l1 : Int32) (l2 : Int32) : GX l G M_X6_letForetoldTicksPass (g_phi G g_wI (m_R M_X6_letForetoldTicksPass).cells (m_R M_X6_letForetoldTicksPass).slots) 0 0 43 [some (.ref l0), some (.int l1), some (.int l2), none] [] h (f_X6_letForetoldTicksPass_b43 K2 h l0 l1 l2) := by
  unfold f_X6_letForetoldTicksPass_b43
  refine X_iinc (v := l2 + 1) rfl rfl rfl (congrArg (fun z => l2 + z) (by decide : Int32.ofInt 1 = 1)) rfl ?_
  refine X_goto rfl rfl ?_
  exact X_sub (g_sub_s (g_sub_s (g_sub_s (g_sub_n g_sub_0)))) (hK2 _ _ _ _)
set_option maxRecDepth 100000 in
theorem b_X6_letForetoldTicksPass_b2 {l : Launch} {G : gG} : ∀ (n : Nat) (h : gH) (l0 : Nat) (l1 : Int32) (l2 : Int32), GX l G M_X6_letForetoldTicksPass (g_phi G g_wI (m_R M_X6_letForetoldTicksPass).cells (m_R M_X6_letForetoldTicksPass).slots) 0 0 2 [some (.ref l0), some (.int l1), some (.int l2), none] [] h (f_X6_letForetoldTicksPass_b2 n h l0 l1 l2) := by
  intro n
  induction n with
  | zero => intros; exact X_none
  | succ n ih =>
    intro h l0 l1 l2
    rw [f_X6_letForetoldTicksPass_b2]
    refine X_iload_n rfl rfl rfl ?_
    refine X_sipush (v := 1000) rfl rfl (by decide) ?_
    refine X_bicmp_ge rfl rfl (fun _ => ?_) (fun _ => ?_)
    · refine X_aload_n rfl rfl rfl ?_
      refine X_callV_IR (M' := M_X6_isBusy) (nA := 0) (As := []) (st := []) (b := l0) (ci := 6) rfl rfl (by decide +kernel) rfl rfl rfl rfl rfl rfl rfl rfl (fun _ e => ct_X6_isBusy e) (fun v10 => ?_)
      refine X_bif_eq rfl rfl (fun _ => ?_) (fun _ => ?_)
      · exact X_sub (g_sub_s (g_sub_n (g_sub_n (g_sub_n g_sub_0)))) (b_X6_letForetoldTicksPass_b49  _ _)
      · refine X_aload_n rfl rfl rfl ?_
        refine X_callV_IW (M' := M_X6_letTickPass) (nA := 0) (As := []) (st := []) (b := l0) (ci := 6) rfl rfl (by decide +kernel) rfl rfl rfl rfl rfl rfl rfl rfl (fun _ _ e => ct_X6_letTickPass e) (fun y17 => ?_)
        refine X_istore_n rfl rfl rfl rfl ?_
        refine X_iload_n rfl rfl rfl ?_
        refine X_bif_eq rfl rfl (fun _ => ?_) (fun _ => ?_)
        · exact X_sub (g_sub_s (g_sub_s (g_sub_s (g_sub_n g_sub_0)))) (b_X6_letForetoldTicksPass_b43 ih _ _ _ _)
        · refine X_iload_n rfl rfl rfl ?_
          refine X_iconst (v := -1) rfl rfl (by decide) ?_
          refine X_bicmp_eq rfl rfl (fun _ => ?_) (fun _ => ?_)
          · exact X_sub (g_sub_s (g_sub_s (g_sub_s (g_sub_n g_sub_0)))) (b_X6_letForetoldTicksPass_b43 ih _ _ _ _)
          · refine X_aload_n rfl rfl rfl ?_
            refine X_iload_n rfl rfl rfl ?_
            refine X_callV_AR (M' := M_X6_messageNumbered) (nA := 1) (As := [.int y17.1]) (st := []) (b := l0) (ci := 6) rfl rfl (by decide +kernel) rfl rfl rfl rfl rfl rfl rfl rfl (fun _ e => ct_X6_messageNumbered e) (fun v32 => ?_)
            refine X_callV_IR (M' := M_X3_agrees) (nA := 0) (As := []) (st := []) (b := v32) (ci := 3) rfl rfl (by decide +kernel) rfl rfl rfl rfl rfl rfl rfl rfl (fun _ e => ct_X3_agrees e) (fun v35 => ?_)
            refine X_bif_ne rfl rfl (fun _ => ?_) (fun _ => ?_)
            · refine X_iconst (v := 0) rfl rfl (by decide) ?_
              exact X_iret rfl rfl rfl rfl rfl rfl rfl
            · exact X_sub (g_sub_s (g_sub_s (g_sub_s (g_sub_n g_sub_0)))) (b_X6_letForetoldTicksPass_b43 ih _ _ _ _)
    · exact X_sub (g_sub_s (g_sub_n (g_sub_n (g_sub_n g_sub_0)))) (b_X6_letForetoldTicksPass_b49  _ _)
set_option maxRecDepth 100000 in
theorem ct_X6_letForetoldTicksPass {l : Launch} {G : gG} {h : gH} {a0 : Nat} {p1 : Int32} {r : Int32} {h1 : gH} (e : f_X6_letForetoldTicksPass h a0 p1 = some (r, h1)) : Ct l G M_X6_letForetoldTicksPass [.ref a0, .int p1] h (some (.int r)) h1 := by
  refine Ct_of (L := [some (.ref a0), some (.int p1), none, none]) ok_X6_letForetoldTicksPass (by decide +kernel) rfl rfl rfl (ρ := g_wI) (F := f_X6_letForetoldTicksPass h a0 p1) ?_ e rfl
  unfold f_X6_letForetoldTicksPass
  refine X_iconst (v := 0) rfl rfl (by decide) ?_
  refine X_istore_n rfl rfl rfl rfl ?_
  exact X_sub (g_sub_s (g_sub_s (g_sub_s (g_sub_n g_sub_0)))) (b_X6_letForetoldTicksPass_b2  _ _ _ _ _)
def f_X1_keptAt (h : gH) (a0 : Nat) (p1 : Int32) : Option (Option Nat) :=
  (if 0 ≤ p1 then
    (g_gA h a0 1 0).bind fun v6 =>
    (g_aln h v6).bind fun v9 =>
    (if p1 < v9 then
      (g_gA h a0 1 0).bind fun v14 =>
      (g_qld h v14 5 p1).bind fun v18 =>
      some v18
    else
      some none)
  else
    some none)
set_option maxRecDepth 100000 in
theorem ct_X1_keptAt {l : Launch} {G : gG} {h : gH} {a0 : Nat} {p1 : Int32} {r : Option Nat} (e : f_X1_keptAt h a0 p1 = some r) : Ct l G M_X1_keptAt [.ref a0, .int p1] h (some (va_rf r)) h := by
  refine Ct_of (L := [some (.ref a0), some (.int p1)]) ok_X1_keptAt (by decide +kernel) rfl rfl rfl (ρ := (g_rQ h)) (F := f_X1_keptAt h a0 p1) ?_ e rfl
  unfold f_X1_keptAt
  refine X_iload_n rfl rfl rfl ?_
  refine X_bif_lt rfl rfl (fun _ => ?_) (fun _ => ?_)
  · refine X_iload_n rfl rfl rfl ?_
    refine X_aload_n rfl rfl rfl ?_
    refine X_getA rfl rfl (fun v6 => ?_)
    refine X_aln rfl rfl (fun v9 => ?_)
    refine X_bicmp_ge rfl rfl (fun _ => ?_) (fun _ => ?_)
    · refine X_aload_n rfl rfl rfl ?_
      refine X_getA rfl rfl (fun v14 => ?_)
      refine X_iload_n rfl rfl rfl ?_
      refine X_qld (t := 5) rfl rfl (by simp) (fun v18 => ?_)
      refine X_goto rfl rfl ?_
      exact X_aret (v := v18) rfl rfl rfl rfl rfl rfl
    · refine X_null rfl rfl ?_
      refine X_rfl (st' := va_rf none :: []) rfl ?_
      exact X_aret (v := none) rfl rfl rfl rfl rfl rfl
  · refine X_null rfl rfl ?_
    refine X_rfl (st' := va_rf none :: []) rfl ?_
    exact X_aret (v := none) rfl rfl rfl rfl rfl rfl
def f_X1_keep (h : gH) (a0 : Nat) (p1 : Nat) : Option gH :=
  (g_gI h a0 1 1).bind fun v2 =>
  bif g_is h a0 1 then
  (f_X1_keptAt h a0 v2).bind fun v5 =>
  (Option.elim v5
    (some h)
    (fun a10 =>
      bif g_is h a10 6 then
      (f_X6_copyFrom h a10 p1).bind fun h15 =>
      (g_gI h15 a0 1 1).bind fun v20 =>
      (g_put h15 a0 1 1 (.int (g_rem (v20 + 1) 8))).bind fun h28 =>
      (g_gI h28 a0 1 2).bind fun v33 =>
      (g_put h28 a0 1 2 (.int (g_min (v33 + 1) 8))).bind fun h43 =>
      some h43
      else none))
  else none
set_option maxRecDepth 100000 in
theorem ct_X1_keep {l : Launch} {G : gG} {h : gH} {a0 : Nat} {p1 : Nat} {h1 : gH} (e : f_X1_keep h a0 p1 = some h1) : Ct l G M_X1_keep [.ref a0, .ref p1] h none h1 := by
  refine Ct_of (L := [some (.ref a0), some (.ref p1), none]) ok_X1_keep (by decide +kernel) rfl rfl rfl (ρ := g_wU) (F := f_X1_keep h a0 p1) ?_ e rfl
  unfold f_X1_keep
  refine X_aload_n rfl rfl rfl ?_
  refine X_aload_n rfl rfl rfl ?_
  refine X_getI rfl rfl (fun v2 => ?_)
  refine X_callV_QR (M' := M_X1_keptAt) (nA := 1) (As := [.int v2]) (st := []) (b := a0) (ci := 1) rfl rfl (by decide +kernel) rfl rfl rfl rfl rfl rfl rfl rfl (fun _ e => ct_X1_keptAt e) (fun v5 => ?_)
  refine X_astoreQ_n (x := v5) rfl rfl rfl rfl ?_
  refine X_aloadQ_n (x := v5) rfl rfl rfl ?_
  refine X_bnull rfl rfl (fun _ => ?_) (fun a10 e10 => ?_)
  · exact X_vret rfl rfl rfl rfl rfl rfl
  · subst e10
    refine X_aload_n rfl rfl rfl ?_
    refine X_aload_n rfl rfl rfl ?_
    refine X_callV_UW (M' := M_X6_copyFrom) (nA := 1) (As := [.ref p1]) (st := []) (b := a10) (ci := 6) rfl rfl (by decide +kernel) rfl rfl rfl rfl rfl rfl rfl rfl (fun _ e => ct_X6_copyFrom e) (fun h15 => ?_)
    refine X_aload_n rfl rfl rfl ?_
    refine X_aload_n rfl rfl rfl ?_
    refine X_getI rfl rfl (fun v20 => ?_)
    refine X_iconst (v := 1) rfl rfl (by decide) ?_
    refine X_iadd rfl rfl ?_
    refine X_bipush (v := 8) rfl rfl (by decide) ?_
    refine X_irem (v := g_rem (v20 + 1) 8) rfl rfl rfl (by decide) ?_
    refine X_put rfl rfl rfl rfl rfl (fun h28 => ?_)
    refine X_aload_n rfl rfl rfl ?_
    refine X_aload_n rfl rfl rfl ?_
    refine X_getI rfl rfl (fun v33 => ?_)
    refine X_iconst (v := 1) rfl rfl (by decide) ?_
    refine X_iadd rfl rfl ?_
    refine X_bipush (v := 8) rfl rfl (by decide) ?_
    refine X_mmin rfl rfl (by decide +kernel) (by decide +kernel) (by decide +kernel) (by decide +kernel) rfl rfl rfl rfl ?_
    refine X_put rfl rfl rfl rfl rfl (fun h43 => ?_)
    exact X_vret rfl rfl rfl rfl rfl rfl
def f_X1_restore (h : gH) (a0 : Nat) (p1 : Nat) : Option (Int32 × gH) :=
  (g_gI h a0 1 1).bind fun v1 =>
  bif g_is h a0 1 then
  (f_X1_keptAt h a0 (g_rem ((v1 + 8) - 1) 8)).bind fun v15 =>
  (g_gI h a0 1 2).bind fun v20 =>
  (if v20 = 0 then
    some (0, h)
  else
    (Option.elim v15
      (some (0, h))
      (fun a27 =>
        bif g_is h p1 6 then
        (f_X6_copyFrom h p1 a27).bind fun h34 =>
        (g_put h34 a0 1 1 (.int (g_rem ((v1 + 8) - 1) 8))).bind fun h39 =>
        (g_gI h39 a0 1 2).bind fun v44 =>
        (g_put h39 a0 1 2 (.int (v44 - 1))).bind fun h49 =>
        some (1, h49)
        else none)))
  else none
set_option maxRecDepth 100000 in
theorem ct_X1_restore {l : Launch} {G : gG} {h : gH} {a0 : Nat} {p1 : Nat} {r : Int32} {h1 : gH} (e : f_X1_restore h a0 p1 = some (r, h1)) : Ct l G M_X1_restore [.ref a0, .ref p1] h (some (.int r)) h1 := by
  refine Ct_of (L := [some (.ref a0), some (.ref p1), none, none]) ok_X1_restore (by decide +kernel) rfl rfl rfl (ρ := g_wI) (F := f_X1_restore h a0 p1) ?_ e rfl
  unfold f_X1_restore
  refine X_aload_n rfl rfl rfl ?_
  refine X_getI rfl rfl (fun v1 => ?_)
  refine X_bipush (v := 8) rfl rfl (by decide) ?_
  refine X_iadd rfl rfl ?_
  refine X_iconst (v := 1) rfl rfl (by decide) ?_
  refine X_isub rfl rfl ?_
  refine X_bipush (v := 8) rfl rfl (by decide) ?_
  refine X_irem (v := g_rem ((v1 + 8) - 1) 8) rfl rfl rfl (by decide) ?_
  refine X_istore_n rfl rfl rfl rfl ?_
  refine X_aload_n rfl rfl rfl ?_
  refine X_iload_n rfl rfl rfl ?_
  refine X_callV_QR (M' := M_X1_keptAt) (nA := 1) (As := [.int (g_rem ((v1 + 8) - 1) 8)]) (st := []) (b := a0) (ci := 1) rfl rfl (by decide +kernel) rfl rfl rfl rfl rfl rfl rfl rfl (fun _ e => ct_X1_keptAt e) (fun v15 => ?_)
  refine X_astoreQ_n (x := v15) rfl rfl rfl rfl ?_
  refine X_aload_n rfl rfl rfl ?_
  refine X_getI rfl rfl (fun v20 => ?_)
  refine X_bif_eq rfl rfl (fun _ => ?_) (fun _ => ?_)
  · refine X_iconst (v := 0) rfl rfl (by decide) ?_
    exact X_iret rfl rfl rfl rfl rfl rfl rfl
  · refine X_aloadQ_n (x := v15) rfl rfl rfl ?_
    refine X_bnonnull rfl rfl (fun _ => ?_) (fun a27 e27 => ?_)
    · refine X_iconst (v := 0) rfl rfl (by decide) ?_
      exact X_iret rfl rfl rfl rfl rfl rfl rfl
    · subst e27
      refine X_aload_n rfl rfl rfl ?_
      refine X_aload_n rfl rfl rfl ?_
      refine X_callV_UW (M' := M_X6_copyFrom) (nA := 1) (As := [.ref a27]) (st := []) (b := p1) (ci := 6) rfl rfl (by decide +kernel) rfl rfl rfl rfl rfl rfl rfl rfl (fun _ e => ct_X6_copyFrom e) (fun h34 => ?_)
      refine X_aload_n rfl rfl rfl ?_
      refine X_iload_n rfl rfl rfl ?_
      refine X_put rfl rfl rfl rfl rfl (fun h39 => ?_)
      refine X_aload_n rfl rfl rfl ?_
      refine X_dup rfl rfl rfl ?_
      refine X_getI rfl rfl (fun v44 => ?_)
      refine X_iconst (v := 1) rfl rfl (by decide) ?_
      refine X_isub rfl rfl ?_
      refine X_put rfl rfl rfl rfl rfl (fun h49 => ?_)
      refine X_iconst (v := 1) rfl rfl (by decide) ?_
      exact X_iret rfl rfl rfl rfl rfl rfl rfl
