def f_X3_become_b33 : Nat → gH → Nat → Int32 → Option gH
  | 0, _, _, _ => none
  | n + 1, h, l0, l4 =>
    (if l4 < 24 then
      (g_gA h l0 3 10).bind fun v41 =>
      (f_X7_setAt h v41 l4 (-1)).bind fun h47 =>
      (g_gA h47 l0 3 11).bind fun v51 =>
      (f_X7_setAt h47 v51 l4 0).bind fun h57 =>
      (g_gA h57 l0 3 12).bind fun v61 =>
      (f_X7_setAt h57 v61 l4 0).bind fun h67 =>
      f_X3_become_b33  n h67 l0 (l4 + 1)
    else
      some h)
def f_X3_become (h : gH) (a0 : Nat) (p1 : Int32) (p2 : Int32) (p3 : Int32) : Option gH :=
  (g_put h a0 3 0 (.int p1)).bind fun h2 =>
  (g_put h2 a0 3 1 (.int p2)).bind fun h7 =>
  (g_put h7 a0 3 3 (.int p3)).bind fun h12 =>
  (g_put h12 a0 3 5 (.int 0)).bind fun h17 =>
  (g_put h17 a0 3 6 (.int (-1))).bind fun h22 =>
  (g_put h22 a0 3 7 (.int (-1))).bind fun h27 =>
  f_X3_become_b33 g_N h27 a0 0
set_option maxRecDepth 100000 in
theorem b_X3_become_b33 {l : Launch} {G : gG} : ∀ (n : Nat) (h : gH) (l0 : Nat) (l4 : Int32), GX l G M_X3_become (g_phi G g_wU (m_R M_X3_become).cells (m_R M_X3_become).slots) 0 0 33 [some (.ref l0), none, none, none, some (.int l4)] [] h (f_X3_become_b33 n h l0 l4) := by
  intro n
  induction n with
  | zero => intros; exact X_none
  | succ n ih =>
    intro h l0 l4
    rw [f_X3_become_b33]
    refine X_iload rfl rfl rfl ?_
    refine X_bipush (v := 24) rfl rfl (by decide) ?_
    refine X_bicmp_ge rfl rfl (fun _ => ?_) (fun _ => ?_)
    · refine X_aload_n rfl rfl rfl ?_
      refine X_getA rfl rfl (fun v41 => ?_)
      refine X_iload rfl rfl rfl ?_
      refine X_iconst (v := -1) rfl rfl (by decide) ?_
      refine X_callSN_UW (M' := M_X7_setAt) (nA := 3) (As := [.ref v41, .int l4, .int (-1)]) (st := []) rfl rfl (by decide +kernel) rfl rfl rfl rfl rfl rfl rfl (fun _ e => ct_X7_setAt e) (fun h47 => ?_)
      refine X_aload_n rfl rfl rfl ?_
      refine X_getA rfl rfl (fun v51 => ?_)
      refine X_iload rfl rfl rfl ?_
      refine X_iconst (v := 0) rfl rfl (by decide) ?_
      refine X_callSN_UW (M' := M_X7_setAt) (nA := 3) (As := [.ref v51, .int l4, .int 0]) (st := []) rfl rfl (by decide +kernel) rfl rfl rfl rfl rfl rfl rfl (fun _ e => ct_X7_setAt e) (fun h57 => ?_)
      refine X_aload_n rfl rfl rfl ?_
      refine X_getA rfl rfl (fun v61 => ?_)
      refine X_iload rfl rfl rfl ?_
      refine X_iconst (v := 0) rfl rfl (by decide) ?_
      refine X_callSN_UW (M' := M_X7_setAt) (nA := 3) (As := [.ref v61, .int l4, .int 0]) (st := []) rfl rfl (by decide +kernel) rfl rfl rfl rfl rfl rfl rfl (fun _ e => ct_X7_setAt e) (fun h67 => ?_)
      refine X_iinc (v := l4 + 1) rfl rfl rfl (congrArg (fun z => l4 + z) (by decide : Int32.ofInt 1 = 1)) rfl ?_
      refine X_goto rfl rfl ?_
      exact X_sub (g_sub_s (g_sub_n (g_sub_n (g_sub_n (g_sub_s g_sub_0))))) (ih _ _ _)
    · exact X_vret rfl rfl rfl rfl rfl rfl
set_option maxRecDepth 100000 in
theorem ct_X3_become {l : Launch} {G : gG} {h : gH} {a0 : Nat} {p1 : Int32} {p2 : Int32} {p3 : Int32} {h1 : gH} (e : f_X3_become h a0 p1 p2 p3 = some h1) : Ct l G M_X3_become [.ref a0, .int p1, .int p2, .int p3] h none h1 := by
  refine Ct_of (L := [some (.ref a0), some (.int p1), some (.int p2), some (.int p3), none]) ok_X3_become (by decide +kernel) rfl rfl rfl (ρ := g_wU) (F := f_X3_become h a0 p1 p2 p3) ?_ e rfl
  unfold f_X3_become
  refine X_aload_n rfl rfl rfl ?_
  refine X_iload_n rfl rfl rfl ?_
  refine X_put rfl rfl rfl rfl rfl (fun h2 => ?_)
  refine X_aload_n rfl rfl rfl ?_
  refine X_iload_n rfl rfl rfl ?_
  refine X_put rfl rfl rfl rfl rfl (fun h7 => ?_)
  refine X_aload_n rfl rfl rfl ?_
  refine X_iload_n rfl rfl rfl ?_
  refine X_put rfl rfl rfl rfl rfl (fun h12 => ?_)
  refine X_aload_n rfl rfl rfl ?_
  refine X_iconst (v := 0) rfl rfl (by decide) ?_
  refine X_put rfl rfl rfl rfl rfl (fun h17 => ?_)
  refine X_aload_n rfl rfl rfl ?_
  refine X_iconst (v := -1) rfl rfl (by decide) ?_
  refine X_put rfl rfl rfl rfl rfl (fun h22 => ?_)
  refine X_aload_n rfl rfl rfl ?_
  refine X_iconst (v := -1) rfl rfl (by decide) ?_
  refine X_put rfl rfl rfl rfl rfl (fun h27 => ?_)
  refine X_iconst (v := 0) rfl rfl (by decide) ?_
  refine X_istore rfl rfl rfl rfl ?_
  exact X_sub (g_sub_s (g_sub_n (g_sub_n (g_sub_n (g_sub_s g_sub_0))))) (b_X3_become_b33  _ _ _ _)
def f_X3_takeLetters_b56 (K13 : gH → Nat → Nat → Int32 → Int32 → Option gH) (h : gH) (l0 : Nat) (l1 : Nat) (l2 : Int32) (l4 : Int32) : Option gH :=
  K13 h l0 l1 l2 (l4 + 1)
def f_X3_takeLetters_b91 (h : gH) (l0 : Nat) (s0 : Int32) (s1 : Nat) : Option gH :=
  (g_put h s1 3 4 (.int s0)).bind fun h91 =>
  (g_gI h91 l0 3 4).bind fun v96 =>
  (g_put h91 l0 3 8 (.int v96)).bind fun h99 =>
  some h99
def f_X3_takeLetters_b13 : Nat → gH → Nat → Nat → Int32 → Int32 → Option gH
  | 0, _, _, _, _, _ => none
  | n + 1, h, l0, l1, l2, l4 =>
    (g_gI h l0 3 2).bind fun v16 =>
    (if l4 < v16 then
      (if 0 ≤ (l2 + l4) then
        (g_aln h l1).bind fun v36 =>
        (if (l2 + l4) < v36 then
          (g_gA h l0 3 9).bind fun v41 =>
          (g_bld h l1 (l2 + l4)).bind fun v49 =>
          (f_X7_setAt h v41 l4 (v49 - 97)).bind fun h53 =>
          f_X3_takeLetters_b56 (f_X3_takeLetters_b13  n) h53 l0 l1 l2 l4
        else
          f_X3_takeLetters_b56 (f_X3_takeLetters_b13  n) h l0 l1 l2 l4)
      else
        f_X3_takeLetters_b56 (f_X3_takeLetters_b13  n) h l0 l1 l2 l4)
    else
      (g_gI h l0 3 3).bind fun v64 =>
      (if v64 < 1 then
        f_X3_takeLetters_b91 h l0 0 l0
      else
        (g_gI h l0 3 2).bind fun v76 =>
        (g_gI h l0 3 3).bind fun v80 =>
        (g_gI h l0 3 3).bind fun v87 =>
        if v87 = 0 then none else
        f_X3_takeLetters_b91 h l0 (((v76 + v80) - 1) / v87) l0))
def f_X3_takeLetters (h : gH) (a0 : Nat) (p1 : Nat) (p2 : Int32) (p3 : Int32) : Option gH :=
  (g_put h a0 3 2 (.int (g_min p3 24))).bind fun h7 =>
  f_X3_takeLetters_b13 g_N h7 a0 p1 p2 0
set_option maxRecDepth 100000 in
theorem b_X3_takeLetters_b56 {l : Launch} {G : gG} {K13 : gH → Nat → Nat → Int32 → Int32 → Option gH} (hK13 : ∀ (h : gH) (l0 : Nat) (l1 : Nat) (l2 : Int32) (l4 : Int32), GX l G M_X3_takeLetters (g_phi G g_wU (m_R M_X3_takeLetters).cells (m_R M_X3_takeLetters).slots) 0 0 13 [some (.ref l0), some (.ref l1), some (.int l2), none, some (.int l4), none] [] h (K13 h l0 l1 l2 l4)) (h : gH) (l0 : Nat) (l1 : Nat) (l2 : Int32) (l4 : Int32) : GX l G M_X3_takeLetters (g_phi G g_wU (m_R M_X3_takeLetters).cells (m_R M_X3_takeLetters).slots) 0 0 56 [some (.ref l0), some (.ref l1), some (.int l2), none, some (.int l4), none] [] h (f_X3_takeLetters_b56 K13 h l0 l1 l2 l4) := by
  unfold f_X3_takeLetters_b56
  refine X_iinc (v := l4 + 1) rfl rfl rfl (congrArg (fun z => l4 + z) (by decide : Int32.ofInt 1 = 1)) rfl ?_
  refine X_goto rfl rfl ?_
  exact X_sub (g_sub_s (g_sub_s (g_sub_s (g_sub_n (g_sub_s (g_sub_n g_sub_0)))))) (hK13 _ _ _ _ _)
set_option maxRecDepth 100000 in
theorem b_X3_takeLetters_b91 {l : Launch} {G : gG} (h : gH) (l0 : Nat) (s0 : Int32) (s1 : Nat) : GX l G M_X3_takeLetters (g_phi G g_wU (m_R M_X3_takeLetters).cells (m_R M_X3_takeLetters).slots) 0 0 91 [some (.ref l0), none, none, none, none, none] [.int s0, .ref s1] h (f_X3_takeLetters_b91 h l0 s0 s1) := by
  unfold f_X3_takeLetters_b91
  refine X_put rfl rfl rfl rfl rfl (fun h91 => ?_)
  refine X_aload_n rfl rfl rfl ?_
  refine X_aload_n rfl rfl rfl ?_
  refine X_getI rfl rfl (fun v96 => ?_)
  refine X_put rfl rfl rfl rfl rfl (fun h99 => ?_)
  exact X_vret rfl rfl rfl rfl rfl rfl
set_option maxRecDepth 100000 in
theorem b_X3_takeLetters_b13 {l : Launch} {G : gG} : ∀ (n : Nat) (h : gH) (l0 : Nat) (l1 : Nat) (l2 : Int32) (l4 : Int32), GX l G M_X3_takeLetters (g_phi G g_wU (m_R M_X3_takeLetters).cells (m_R M_X3_takeLetters).slots) 0 0 13 [some (.ref l0), some (.ref l1), some (.int l2), none, some (.int l4), none] [] h (f_X3_takeLetters_b13 n h l0 l1 l2 l4) := by
  intro n
  induction n with
  | zero => intros; exact X_none
  | succ n ih =>
    intro h l0 l1 l2 l4
    rw [f_X3_takeLetters_b13]
    refine X_iload rfl rfl rfl ?_
    refine X_aload_n rfl rfl rfl ?_
    refine X_getI rfl rfl (fun v16 => ?_)
    refine X_bicmp_ge rfl rfl (fun _ => ?_) (fun _ => ?_)
    · refine X_iload_n rfl rfl rfl ?_
      refine X_iload rfl rfl rfl ?_
      refine X_iadd rfl rfl ?_
      refine X_istore rfl rfl rfl rfl ?_
      refine X_iload rfl rfl rfl ?_
      refine X_bif_lt rfl rfl (fun _ => ?_) (fun _ => ?_)
      · refine X_iload rfl rfl rfl ?_
        refine X_aload_n rfl rfl rfl ?_
        refine X_aln rfl rfl (fun v36 => ?_)
        refine X_bicmp_ge rfl rfl (fun _ => ?_) (fun _ => ?_)
        · refine X_aload_n rfl rfl rfl ?_
          refine X_getA rfl rfl (fun v41 => ?_)
          refine X_iload rfl rfl rfl ?_
          refine X_aload_n rfl rfl rfl ?_
          refine X_iload rfl rfl rfl ?_
          refine X_bld rfl rfl (fun v49 => ?_)
          refine X_bipush (v := 97) rfl rfl (by decide) ?_
          refine X_isub rfl rfl ?_
          refine X_callSN_UW (M' := M_X7_setAt) (nA := 3) (As := [.ref v41, .int l4, .int (v49 - 97)]) (st := []) rfl rfl (by decide +kernel) rfl rfl rfl rfl rfl rfl rfl (fun _ e => ct_X7_setAt e) (fun h53 => ?_)
          exact X_sub (g_sub_s (g_sub_s (g_sub_s (g_sub_n (g_sub_s (g_sub_n g_sub_0)))))) (b_X3_takeLetters_b56 ih _ _ _ _ _)
        · exact X_sub (g_sub_s (g_sub_s (g_sub_s (g_sub_n (g_sub_s (g_sub_n g_sub_0)))))) (b_X3_takeLetters_b56 ih _ _ _ _ _)
      · exact X_sub (g_sub_s (g_sub_s (g_sub_s (g_sub_n (g_sub_s (g_sub_n g_sub_0)))))) (b_X3_takeLetters_b56 ih _ _ _ _ _)
    · refine X_aload_n rfl rfl rfl ?_
      refine X_aload_n rfl rfl rfl ?_
      refine X_getI rfl rfl (fun v64 => ?_)
      refine X_iconst (v := 1) rfl rfl (by decide) ?_
      refine X_bicmp_ge rfl rfl (fun _ => ?_) (fun _ => ?_)
      · refine X_iconst (v := 0) rfl rfl (by decide) ?_
        refine X_goto rfl rfl ?_
        exact X_sub (g_sub_s (g_sub_n (g_sub_n (g_sub_n (g_sub_n (g_sub_n g_sub_0)))))) (b_X3_takeLetters_b91  _ _ _ _)
      · refine X_aload_n rfl rfl rfl ?_
        refine X_getI rfl rfl (fun v76 => ?_)
        refine X_aload_n rfl rfl rfl ?_
        refine X_getI rfl rfl (fun v80 => ?_)
        refine X_iadd rfl rfl ?_
        refine X_iconst (v := 1) rfl rfl (by decide) ?_
        refine X_isub rfl rfl ?_
        refine X_aload_n rfl rfl rfl ?_
        refine X_getI rfl rfl (fun v87 => ?_)
        refine X_if (fun _ => X_none) (fun hz => ?_)
        refine X_idiv (v := ((v76 + v80) - 1) / v87) rfl rfl rfl hz ?_
        exact X_sub (g_sub_s (g_sub_n (g_sub_n (g_sub_n (g_sub_n (g_sub_n g_sub_0)))))) (b_X3_takeLetters_b91  _ _ _ _)
set_option maxRecDepth 100000 in
theorem ct_X3_takeLetters {l : Launch} {G : gG} {h : gH} {a0 : Nat} {p1 : Nat} {p2 : Int32} {p3 : Int32} {h1 : gH} (e : f_X3_takeLetters h a0 p1 p2 p3 = some h1) : Ct l G M_X3_takeLetters [.ref a0, .ref p1, .int p2, .int p3] h none h1 := by
  refine Ct_of (L := [some (.ref a0), some (.ref p1), some (.int p2), some (.int p3), none, none]) ok_X3_takeLetters (by decide +kernel) rfl rfl rfl (ρ := g_wU) (F := f_X3_takeLetters h a0 p1 p2 p3) ?_ e rfl
  unfold f_X3_takeLetters
  refine X_aload_n rfl rfl rfl ?_
  refine X_iload_n rfl rfl rfl ?_
  refine X_bipush (v := 24) rfl rfl (by decide) ?_
  refine X_mmin rfl rfl (by decide +kernel) (by decide +kernel) (by decide +kernel) (by decide +kernel) rfl rfl rfl rfl ?_
  refine X_put rfl rfl rfl rfl rfl (fun h7 => ?_)
  refine X_iconst (v := 0) rfl rfl (by decide) ?_
  refine X_istore rfl rfl rfl rfl ?_
  exact X_sub (g_sub_s (g_sub_s (g_sub_s (g_sub_n (g_sub_s (g_sub_n g_sub_0)))))) (b_X3_takeLetters_b13  _ _ _ _ _ _)
def f_X3_copyFrom (h : gH) (a0 : Nat) (p1 : Nat) : Option gH :=
  (g_gI h p1 3 0).bind fun v2 =>
  (g_put h a0 3 0 (.int v2)).bind fun h5 =>
  (g_gI h5 p1 3 1).bind fun v10 =>
  (g_put h5 a0 3 1 (.int v10)).bind fun h13 =>
  (g_gI h13 p1 3 2).bind fun v18 =>
  (g_put h13 a0 3 2 (.int v18)).bind fun h21 =>
  (g_gI h21 p1 3 3).bind fun v26 =>
  (g_put h21 a0 3 3 (.int v26)).bind fun h29 =>
  (g_gI h29 p1 3 4).bind fun v34 =>
  (g_put h29 a0 3 4 (.int v34)).bind fun h37 =>
  (g_gI h37 p1 3 5).bind fun v42 =>
  (g_put h37 a0 3 5 (.int v42)).bind fun h45 =>
  (g_gI h45 p1 3 6).bind fun v50 =>
  (g_put h45 a0 3 6 (.int v50)).bind fun h53 =>
  (g_gI h53 p1 3 7).bind fun v58 =>
  (g_put h53 a0 3 7 (.int v58)).bind fun h61 =>
  (g_gI h61 p1 3 8).bind fun v66 =>
  (g_put h61 a0 3 8 (.int v66)).bind fun h69 =>
  (g_gA h69 p1 3 9).bind fun v73 =>
  (g_gA h69 a0 3 9).bind fun v77 =>
  (f_X7_copyRow h69 v73 v77).bind fun h80 =>
  (g_gA h80 p1 3 10).bind fun v84 =>
  (g_gA h80 a0 3 10).bind fun v88 =>
  (f_X7_copyRow h80 v84 v88).bind fun h91 =>
  (g_gA h91 p1 3 11).bind fun v95 =>
  (g_gA h91 a0 3 11).bind fun v99 =>
  (f_X7_copyRow h91 v95 v99).bind fun h102 =>
  (g_gA h102 p1 3 12).bind fun v106 =>
  (g_gA h102 a0 3 12).bind fun v110 =>
  (f_X7_copyRow h102 v106 v110).bind fun h113 =>
  some h113
set_option maxRecDepth 100000 in
theorem ct_X3_copyFrom {l : Launch} {G : gG} {h : gH} {a0 : Nat} {p1 : Nat} {h1 : gH} (e : f_X3_copyFrom h a0 p1 = some h1) : Ct l G M_X3_copyFrom [.ref a0, .ref p1] h none h1 := by
  refine Ct_of (L := [some (.ref a0), some (.ref p1)]) ok_X3_copyFrom (by decide +kernel) rfl rfl rfl (ρ := g_wU) (F := f_X3_copyFrom h a0 p1) ?_ e rfl
  unfold f_X3_copyFrom
  refine X_aload_n rfl rfl rfl ?_
  refine X_aload_n rfl rfl rfl ?_
  refine X_getI rfl rfl (fun v2 => ?_)
  refine X_put rfl rfl rfl rfl rfl (fun h5 => ?_)
  refine X_aload_n rfl rfl rfl ?_
  refine X_aload_n rfl rfl rfl ?_
  refine X_getI rfl rfl (fun v10 => ?_)
  refine X_put rfl rfl rfl rfl rfl (fun h13 => ?_)
  refine X_aload_n rfl rfl rfl ?_
  refine X_aload_n rfl rfl rfl ?_
  refine X_getI rfl rfl (fun v18 => ?_)
  refine X_put rfl rfl rfl rfl rfl (fun h21 => ?_)
  refine X_aload_n rfl rfl rfl ?_
  refine X_aload_n rfl rfl rfl ?_
  refine X_getI rfl rfl (fun v26 => ?_)
  refine X_put rfl rfl rfl rfl rfl (fun h29 => ?_)
  refine X_aload_n rfl rfl rfl ?_
  refine X_aload_n rfl rfl rfl ?_
  refine X_getI rfl rfl (fun v34 => ?_)
  refine X_put rfl rfl rfl rfl rfl (fun h37 => ?_)
  refine X_aload_n rfl rfl rfl ?_
  refine X_aload_n rfl rfl rfl ?_
  refine X_getI rfl rfl (fun v42 => ?_)
  refine X_put rfl rfl rfl rfl rfl (fun h45 => ?_)
  refine X_aload_n rfl rfl rfl ?_
  refine X_aload_n rfl rfl rfl ?_
  refine X_getI rfl rfl (fun v50 => ?_)
  refine X_put rfl rfl rfl rfl rfl (fun h53 => ?_)
  refine X_aload_n rfl rfl rfl ?_
  refine X_aload_n rfl rfl rfl ?_
  refine X_getI rfl rfl (fun v58 => ?_)
  refine X_put rfl rfl rfl rfl rfl (fun h61 => ?_)
  refine X_aload_n rfl rfl rfl ?_
  refine X_aload_n rfl rfl rfl ?_
  refine X_getI rfl rfl (fun v66 => ?_)
  refine X_put rfl rfl rfl rfl rfl (fun h69 => ?_)
  refine X_aload_n rfl rfl rfl ?_
  refine X_getA rfl rfl (fun v73 => ?_)
  refine X_aload_n rfl rfl rfl ?_
  refine X_getA rfl rfl (fun v77 => ?_)
  refine X_callSN_UW (M' := M_X7_copyRow) (nA := 2) (As := [.ref v73, .ref v77]) (st := []) rfl rfl (by decide +kernel) rfl rfl rfl rfl rfl rfl rfl (fun _ e => ct_X7_copyRow e) (fun h80 => ?_)
  refine X_aload_n rfl rfl rfl ?_
  refine X_getA rfl rfl (fun v84 => ?_)
  refine X_aload_n rfl rfl rfl ?_
  refine X_getA rfl rfl (fun v88 => ?_)
  refine X_callSN_UW (M' := M_X7_copyRow) (nA := 2) (As := [.ref v84, .ref v88]) (st := []) rfl rfl (by decide +kernel) rfl rfl rfl rfl rfl rfl rfl (fun _ e => ct_X7_copyRow e) (fun h91 => ?_)
  refine X_aload_n rfl rfl rfl ?_
  refine X_getA rfl rfl (fun v95 => ?_)
  refine X_aload_n rfl rfl rfl ?_
  refine X_getA rfl rfl (fun v99 => ?_)
  refine X_callSN_UW (M' := M_X7_copyRow) (nA := 2) (As := [.ref v95, .ref v99]) (st := []) rfl rfl (by decide +kernel) rfl rfl rfl rfl rfl rfl rfl (fun _ e => ct_X7_copyRow e) (fun h102 => ?_)
  refine X_aload_n rfl rfl rfl ?_
  refine X_getA rfl rfl (fun v106 => ?_)
  refine X_aload_n rfl rfl rfl ?_
  refine X_getA rfl rfl (fun v110 => ?_)
  refine X_callSN_UW (M' := M_X7_copyRow) (nA := 2) (As := [.ref v106, .ref v110]) (st := []) rfl rfl (by decide +kernel) rfl rfl rfl rfl rfl rfl rfl (fun _ e => ct_X7_copyRow e) (fun h113 => ?_)
  exact X_vret rfl rfl rfl rfl rfl rfl
def f_X3_loggedAt (h : gH) (a0 : Nat) (p1 : Int32) : Option (Int32) :=
  (g_gA h a0 3 10).bind fun v1 =>
  (f_X7_valueAt h v1 p1).bind fun v5 =>
  some v5
set_option maxRecDepth 100000 in
theorem ct_X3_loggedAt {l : Launch} {G : gG} {h : gH} {a0 : Nat} {p1 : Int32} {r : Int32} (e : f_X3_loggedAt h a0 p1 = some r) : Ct l G M_X3_loggedAt [.ref a0, .int p1] h (some (.int r)) h := by
  refine Ct_of (L := [some (.ref a0), some (.int p1)]) ok_X3_loggedAt (by decide +kernel) rfl rfl rfl (ρ := (g_rI h)) (F := f_X3_loggedAt h a0 p1) ?_ e rfl
  unfold f_X3_loggedAt
  refine X_aload_n rfl rfl rfl ?_
  refine X_getA rfl rfl (fun v1 => ?_)
  refine X_iload_n rfl rfl rfl ?_
  refine X_callSN_IR (M' := M_X7_valueAt) (nA := 2) (As := [.ref v1, .int p1]) (st := []) rfl rfl (by decide +kernel) rfl rfl rfl rfl rfl rfl rfl (fun _ e => ct_X7_valueAt e) (fun v5 => ?_)
  exact X_iret rfl rfl rfl rfl rfl rfl rfl
def f_X3_emptyPlaces_b24 (h : gH) (K4 : Nat → Int32 → Int32 → Option (Int32)) (l0 : Nat) (l1 : Int32) (l2 : Int32) : Option (Int32) :=
  K4 l0 l1 (l2 + 1)
def f_X3_emptyPlaces_b4 (h : gH) : Nat → Nat → Int32 → Int32 → Option (Int32)
  | 0, _, _, _ => none
  | n + 1, l0, l1, l2 =>
    (g_gI h l0 3 2).bind fun v6 =>
    (if l2 < v6 then
      bif g_is h l0 3 then
      (f_X3_loggedAt h l0 l2).bind fun v14 =>
      (if v14 = (-1) then
        f_X3_emptyPlaces_b24 h (f_X3_emptyPlaces_b4 h n) l0 (l1 + 1) l2
      else
        f_X3_emptyPlaces_b24 h (f_X3_emptyPlaces_b4 h n) l0 l1 l2)
      else none
    else
      some l1)
def f_X3_emptyPlaces (h : gH) (a0 : Nat) : Option (Int32) :=
  f_X3_emptyPlaces_b4 h g_N a0 0 0
set_option maxRecDepth 100000 in
theorem b_X3_emptyPlaces_b24 {l : Launch} {G : gG} {h : gH} {K4 : Nat → Int32 → Int32 → Option (Int32)} (hK4 : ∀ (l0 : Nat) (l1 : Int32) (l2 : Int32), GX l G M_X3_emptyPlaces (g_phi G (g_rI h) (m_R M_X3_emptyPlaces).cells (m_R M_X3_emptyPlaces).slots) 0 0 4 [some (.ref l0), some (.int l1), some (.int l2)] [] h (K4 l0 l1 l2)) (l0 : Nat) (l1 : Int32) (l2 : Int32) : GX l G M_X3_emptyPlaces (g_phi G (g_rI h) (m_R M_X3_emptyPlaces).cells (m_R M_X3_emptyPlaces).slots) 0 0 24 [some (.ref l0), some (.int l1), some (.int l2)] [] h (f_X3_emptyPlaces_b24 h K4 l0 l1 l2) := by
  unfold f_X3_emptyPlaces_b24
  refine X_iinc (v := l2 + 1) rfl rfl rfl (congrArg (fun z => l2 + z) (by decide : Int32.ofInt 1 = 1)) rfl ?_
  refine X_goto rfl rfl ?_
  exact X_sub (g_sub_s (g_sub_s (g_sub_s g_sub_0))) (hK4 _ _ _)
set_option maxRecDepth 100000 in
theorem b_X3_emptyPlaces_b4 {l : Launch} {G : gG} {h : gH} : ∀ (n : Nat) (l0 : Nat) (l1 : Int32) (l2 : Int32), GX l G M_X3_emptyPlaces (g_phi G (g_rI h) (m_R M_X3_emptyPlaces).cells (m_R M_X3_emptyPlaces).slots) 0 0 4 [some (.ref l0), some (.int l1), some (.int l2)] [] h (f_X3_emptyPlaces_b4 h n l0 l1 l2) := by
  intro n
  induction n with
  | zero => intros; exact X_none
  | succ n ih =>
    intro l0 l1 l2
    rw [f_X3_emptyPlaces_b4]
    refine X_iload_n rfl rfl rfl ?_
    refine X_aload_n rfl rfl rfl ?_
    refine X_getI rfl rfl (fun v6 => ?_)
    refine X_bicmp_ge rfl rfl (fun _ => ?_) (fun _ => ?_)
    · refine X_aload_n rfl rfl rfl ?_
      refine X_iload_n rfl rfl rfl ?_
      refine X_callV_IR (M' := M_X3_loggedAt) (nA := 1) (As := [.int l2]) (st := []) (b := l0) (ci := 3) rfl rfl (by decide +kernel) rfl rfl rfl rfl rfl rfl rfl rfl (fun _ e => ct_X3_loggedAt e) (fun v14 => ?_)
      refine X_iconst (v := -1) rfl rfl (by decide) ?_
      refine X_bicmp_ne rfl rfl (fun _ => ?_) (fun _ => ?_)
      · refine X_iinc (v := l1 + 1) rfl rfl rfl (congrArg (fun z => l1 + z) (by decide : Int32.ofInt 1 = 1)) rfl ?_
        exact X_sub (g_sub_s (g_sub_s (g_sub_s g_sub_0))) (b_X3_emptyPlaces_b24 ih _ _ _)
      · exact X_sub (g_sub_s (g_sub_s (g_sub_s g_sub_0))) (b_X3_emptyPlaces_b24 ih _ _ _)
    · refine X_iload_n rfl rfl rfl ?_
      exact X_iret rfl rfl rfl rfl rfl rfl rfl
set_option maxRecDepth 100000 in
theorem ct_X3_emptyPlaces {l : Launch} {G : gG} {h : gH} {a0 : Nat} {r : Int32} (e : f_X3_emptyPlaces h a0 = some r) : Ct l G M_X3_emptyPlaces [.ref a0] h (some (.int r)) h := by
  refine Ct_of (L := [some (.ref a0), none, none]) ok_X3_emptyPlaces (by decide +kernel) rfl rfl rfl (ρ := (g_rI h)) (F := f_X3_emptyPlaces h a0) ?_ e rfl
  unfold f_X3_emptyPlaces
  refine X_iconst (v := 0) rfl rfl (by decide) ?_
  refine X_istore_n rfl rfl rfl rfl ?_
  refine X_iconst (v := 0) rfl rfl (by decide) ?_
  refine X_istore_n rfl rfl rfl rfl ?_
  exact X_sub (g_sub_s (g_sub_s (g_sub_s g_sub_0))) (b_X3_emptyPlaces_b4  _ _ _ _)
def f_X3_letterAt (h : gH) (a0 : Nat) (p1 : Int32) : Option (Int32) :=
  (g_gA h a0 3 9).bind fun v1 =>
  (f_X7_valueAt h v1 p1).bind fun v5 =>
  some v5
set_option maxRecDepth 100000 in
theorem ct_X3_letterAt {l : Launch} {G : gG} {h : gH} {a0 : Nat} {p1 : Int32} {r : Int32} (e : f_X3_letterAt h a0 p1 = some r) : Ct l G M_X3_letterAt [.ref a0, .int p1] h (some (.int r)) h := by
  refine Ct_of (L := [some (.ref a0), some (.int p1)]) ok_X3_letterAt (by decide +kernel) rfl rfl rfl (ρ := (g_rI h)) (F := f_X3_letterAt h a0 p1) ?_ e rfl
  unfold f_X3_letterAt
  refine X_aload_n rfl rfl rfl ?_
  refine X_getA rfl rfl (fun v1 => ?_)
  refine X_iload_n rfl rfl rfl ?_
  refine X_callSN_IR (M' := M_X7_valueAt) (nA := 2) (As := [.ref v1, .int p1]) (st := []) rfl rfl (by decide +kernel) rfl rfl rfl rfl rfl rfl rfl (fun _ e => ct_X7_valueAt e) (fun v5 => ?_)
  exact X_iret rfl rfl rfl rfl rfl rfl rfl
def f_X3_wrongPlaces_b37 (h : gH) (K4 : Nat → Int32 → Int32 → Option (Int32)) (l0 : Nat) (l1 : Int32) (l2 : Int32) : Option (Int32) :=
  K4 l0 l1 (l2 + 1)
def f_X3_wrongPlaces_b4 (h : gH) : Nat → Nat → Int32 → Int32 → Option (Int32)
  | 0, _, _, _ => none
  | n + 1, l0, l1, l2 =>
    (g_gI h l0 3 2).bind fun v6 =>
    (if l2 < v6 then
      bif g_is h l0 3 then
      (f_X3_loggedAt h l0 l2).bind fun v14 =>
      (if v14 = (-1) then
        f_X3_wrongPlaces_b37 h (f_X3_wrongPlaces_b4 h n) l0 l1 l2
      else
        bif g_is h l0 3 then
        (f_X3_loggedAt h l0 l2).bind fun v23 =>
        bif g_is h l0 3 then
        (f_X3_letterAt h l0 l2).bind fun v28 =>
        (if v23 = v28 then
          f_X3_wrongPlaces_b37 h (f_X3_wrongPlaces_b4 h n) l0 l1 l2
        else
          f_X3_wrongPlaces_b37 h (f_X3_wrongPlaces_b4 h n) l0 (l1 + 1) l2)
        else none
        else none)
      else none
    else
      some l1)
def f_X3_wrongPlaces (h : gH) (a0 : Nat) : Option (Int32) :=
  f_X3_wrongPlaces_b4 h g_N a0 0 0
set_option maxRecDepth 100000 in
theorem b_X3_wrongPlaces_b37 {l : Launch} {G : gG} {h : gH} {K4 : Nat → Int32 → Int32 → Option (Int32)} (hK4 : ∀ (l0 : Nat) (l1 : Int32) (l2 : Int32), GX l G M_X3_wrongPlaces (g_phi G (g_rI h) (m_R M_X3_wrongPlaces).cells (m_R M_X3_wrongPlaces).slots) 0 0 4 [some (.ref l0), some (.int l1), some (.int l2)] [] h (K4 l0 l1 l2)) (l0 : Nat) (l1 : Int32) (l2 : Int32) : GX l G M_X3_wrongPlaces (g_phi G (g_rI h) (m_R M_X3_wrongPlaces).cells (m_R M_X3_wrongPlaces).slots) 0 0 37 [some (.ref l0), some (.int l1), some (.int l2)] [] h (f_X3_wrongPlaces_b37 h K4 l0 l1 l2) := by
  unfold f_X3_wrongPlaces_b37
  refine X_iinc (v := l2 + 1) rfl rfl rfl (congrArg (fun z => l2 + z) (by decide : Int32.ofInt 1 = 1)) rfl ?_
  refine X_goto rfl rfl ?_
  exact X_sub (g_sub_s (g_sub_s (g_sub_s g_sub_0))) (hK4 _ _ _)
set_option maxRecDepth 100000 in
theorem b_X3_wrongPlaces_b4 {l : Launch} {G : gG} {h : gH} : ∀ (n : Nat) (l0 : Nat) (l1 : Int32) (l2 : Int32), GX l G M_X3_wrongPlaces (g_phi G (g_rI h) (m_R M_X3_wrongPlaces).cells (m_R M_X3_wrongPlaces).slots) 0 0 4 [some (.ref l0), some (.int l1), some (.int l2)] [] h (f_X3_wrongPlaces_b4 h n l0 l1 l2) := by
  intro n
  induction n with
  | zero => intros; exact X_none
  | succ n ih =>
    intro l0 l1 l2
    rw [f_X3_wrongPlaces_b4]
    refine X_iload_n rfl rfl rfl ?_
    refine X_aload_n rfl rfl rfl ?_
    refine X_getI rfl rfl (fun v6 => ?_)
    refine X_bicmp_ge rfl rfl (fun _ => ?_) (fun _ => ?_)
    · refine X_aload_n rfl rfl rfl ?_
      refine X_iload_n rfl rfl rfl ?_
      refine X_callV_IR (M' := M_X3_loggedAt) (nA := 1) (As := [.int l2]) (st := []) (b := l0) (ci := 3) rfl rfl (by decide +kernel) rfl rfl rfl rfl rfl rfl rfl rfl (fun _ e => ct_X3_loggedAt e) (fun v14 => ?_)
      refine X_iconst (v := -1) rfl rfl (by decide) ?_
      refine X_bicmp_eq rfl rfl (fun _ => ?_) (fun _ => ?_)
      · exact X_sub (g_sub_s (g_sub_s (g_sub_s g_sub_0))) (b_X3_wrongPlaces_b37 ih _ _ _)
      · refine X_aload_n rfl rfl rfl ?_
        refine X_iload_n rfl rfl rfl ?_
        refine X_callV_IR (M' := M_X3_loggedAt) (nA := 1) (As := [.int l2]) (st := []) (b := l0) (ci := 3) rfl rfl (by decide +kernel) rfl rfl rfl rfl rfl rfl rfl rfl (fun _ e => ct_X3_loggedAt e) (fun v23 => ?_)
        refine X_aload_n rfl rfl rfl ?_
        refine X_iload_n rfl rfl rfl ?_
        refine X_callV_IR (M' := M_X3_letterAt) (nA := 1) (As := [.int l2]) (st := [.int v23]) (b := l0) (ci := 3) rfl rfl (by decide +kernel) rfl rfl rfl rfl rfl rfl rfl rfl (fun _ e => ct_X3_letterAt e) (fun v28 => ?_)
        refine X_bicmp_eq rfl rfl (fun _ => ?_) (fun _ => ?_)
        · exact X_sub (g_sub_s (g_sub_s (g_sub_s g_sub_0))) (b_X3_wrongPlaces_b37 ih _ _ _)
        · refine X_iinc (v := l1 + 1) rfl rfl rfl (congrArg (fun z => l1 + z) (by decide : Int32.ofInt 1 = 1)) rfl ?_
          exact X_sub (g_sub_s (g_sub_s (g_sub_s g_sub_0))) (b_X3_wrongPlaces_b37 ih _ _ _)
    · refine X_iload_n rfl rfl rfl ?_
      exact X_iret rfl rfl rfl rfl rfl rfl rfl
set_option maxRecDepth 100000 in
theorem ct_X3_wrongPlaces {l : Launch} {G : gG} {h : gH} {a0 : Nat} {r : Int32} (e : f_X3_wrongPlaces h a0 = some r) : Ct l G M_X3_wrongPlaces [.ref a0] h (some (.int r)) h := by
  refine Ct_of (L := [some (.ref a0), none, none]) ok_X3_wrongPlaces (by decide +kernel) rfl rfl rfl (ρ := (g_rI h)) (F := f_X3_wrongPlaces h a0) ?_ e rfl
  unfold f_X3_wrongPlaces
  refine X_iconst (v := 0) rfl rfl (by decide) ?_
  refine X_istore_n rfl rfl rfl rfl ?_
  refine X_iconst (v := 0) rfl rfl (by decide) ?_
  refine X_istore_n rfl rfl rfl rfl ?_
  exact X_sub (g_sub_s (g_sub_s (g_sub_s g_sub_0))) (b_X3_wrongPlaces_b4  _ _ _ _)
def f_X3_allTries_b4 (h : gH) : Nat → Nat → Int32 → Int32 → Option (Int32)
  | 0, _, _, _ => none
  | n + 1, l0, l1, l2 =>
    (g_gI h l0 3 4).bind fun v6 =>
    (if l2 < v6 then
      (g_gA h l0 3 12).bind fun v14 =>
      (f_X7_valueAt h v14 l2).bind fun v18 =>
      f_X3_allTries_b4 h n l0 (l1 + v18) (l2 + 1)
    else
      some l1)
def f_X3_allTries (h : gH) (a0 : Nat) : Option (Int32) :=
  f_X3_allTries_b4 h g_N a0 0 0
set_option maxRecDepth 100000 in
theorem b_X3_allTries_b4 {l : Launch} {G : gG} {h : gH} : ∀ (n : Nat) (l0 : Nat) (l1 : Int32) (l2 : Int32), GX l G M_X3_allTries (g_phi G (g_rI h) (m_R M_X3_allTries).cells (m_R M_X3_allTries).slots) 0 0 4 [some (.ref l0), some (.int l1), some (.int l2)] [] h (f_X3_allTries_b4 h n l0 l1 l2) := by
  intro n
  induction n with
  | zero => intros; exact X_none
  | succ n ih =>
    intro l0 l1 l2
    rw [f_X3_allTries_b4]
    refine X_iload_n rfl rfl rfl ?_
    refine X_aload_n rfl rfl rfl ?_
    refine X_getI rfl rfl (fun v6 => ?_)
    refine X_bicmp_ge rfl rfl (fun _ => ?_) (fun _ => ?_)
    · refine X_iload_n rfl rfl rfl ?_
      refine X_aload_n rfl rfl rfl ?_
      refine X_getA rfl rfl (fun v14 => ?_)
      refine X_iload_n rfl rfl rfl ?_
      refine X_callSN_IR (M' := M_X7_valueAt) (nA := 2) (As := [.ref v14, .int l2]) (st := [.int l1]) rfl rfl (by decide +kernel) rfl rfl rfl rfl rfl rfl rfl (fun _ e => ct_X7_valueAt e) (fun v18 => ?_)
      refine X_iadd rfl rfl ?_
      refine X_istore_n rfl rfl rfl rfl ?_
      refine X_iinc (v := l2 + 1) rfl rfl rfl (congrArg (fun z => l2 + z) (by decide : Int32.ofInt 1 = 1)) rfl ?_
      refine X_goto rfl rfl ?_
      exact X_sub (g_sub_s (g_sub_s (g_sub_s g_sub_0))) (ih _ _ _)
    · refine X_iload_n rfl rfl rfl ?_
      exact X_iret rfl rfl rfl rfl rfl rfl rfl
set_option maxRecDepth 100000 in
theorem ct_X3_allTries {l : Launch} {G : gG} {h : gH} {a0 : Nat} {r : Int32} (e : f_X3_allTries h a0 = some r) : Ct l G M_X3_allTries [.ref a0] h (some (.int r)) h := by
  refine Ct_of (L := [some (.ref a0), none, none]) ok_X3_allTries (by decide +kernel) rfl rfl rfl (ρ := (g_rI h)) (F := f_X3_allTries h a0) ?_ e rfl
  unfold f_X3_allTries
  refine X_iconst (v := 0) rfl rfl (by decide) ?_
  refine X_istore_n rfl rfl rfl rfl ?_
  refine X_iconst (v := 0) rfl rfl (by decide) ?_
  refine X_istore_n rfl rfl rfl rfl ?_
  exact X_sub (g_sub_s (g_sub_s (g_sub_s g_sub_0))) (b_X3_allTries_b4  _ _ _ _)
def f_X3_figure (h : gH) (a0 : Nat) (p1 : Int32) : Option (Int32) :=
  (if p1 = 0 then
    (g_gI h a0 3 0).bind fun v53 =>
    some v53
  else
    (if p1 = 1 then
      (g_gI h a0 3 1).bind fun v58 =>
      some v58
    else
      (if p1 = 2 then
        (g_gI h a0 3 2).bind fun v63 =>
        some v63
      else
        (if p1 = 3 then
          (g_gI h a0 3 4).bind fun v68 =>
          some v68
        else
          (if p1 = 4 then
            (g_gI h a0 3 5).bind fun v73 =>
            some v73
          else
            (if p1 = 5 then
              bif g_is h a0 3 then
              (f_X3_emptyPlaces h a0).bind fun v78 =>
              some v78
              else none
            else
              (if p1 = 6 then
                bif g_is h a0 3 then
                (f_X3_wrongPlaces h a0).bind fun v83 =>
                some v83
                else none
              else
                (if p1 = 7 then
                  bif g_is h a0 3 then
                  (f_X3_allTries h a0).bind fun v88 =>
                  some v88
                  else none
                else
                  (if p1 = 8 then
                    (g_gI h a0 3 6).bind fun v93 =>
                    some v93
                  else
                    (g_gI h a0 3 7).bind fun v98 =>
                    some v98)))))))))
set_option maxRecDepth 100000 in
theorem ct_X3_figure {l : Launch} {G : gG} {h : gH} {a0 : Nat} {p1 : Int32} {r : Int32} (e : f_X3_figure h a0 p1 = some r) : Ct l G M_X3_figure [.ref a0, .int p1] h (some (.int r)) h := by
  refine Ct_of (L := [some (.ref a0), some (.int p1)]) ok_X3_figure (by decide +kernel) rfl rfl rfl (ρ := (g_rI h)) (F := f_X3_figure h a0 p1) ?_ e rfl
  unfold f_X3_figure
  refine X_iload_n rfl rfl rfl ?_
  refine X_if (fun c1_0 => ?_) (fun c1_0 => ?_)
  · refine X_tswIn (v := 0) (len := 51) (tgt := 52) (off := 51) rfl rfl c1_0 (by decide) (by decide) rfl rfl ?_
    refine X_aload_n rfl rfl rfl ?_
    refine X_getI rfl rfl (fun v53 => ?_)
    exact X_iret rfl rfl rfl rfl rfl rfl rfl
  · refine X_if (fun c1_1 => ?_) (fun c1_1 => ?_)
    · refine X_tswIn (v := 1) (len := 51) (tgt := 57) (off := 56) rfl rfl c1_1 (by decide) (by decide) rfl rfl ?_
      refine X_aload_n rfl rfl rfl ?_
      refine X_getI rfl rfl (fun v58 => ?_)
      exact X_iret rfl rfl rfl rfl rfl rfl rfl
    · refine X_if (fun c1_2 => ?_) (fun c1_2 => ?_)
      · refine X_tswIn (v := 2) (len := 51) (tgt := 62) (off := 61) rfl rfl c1_2 (by decide) (by decide) rfl rfl ?_
        refine X_aload_n rfl rfl rfl ?_
        refine X_getI rfl rfl (fun v63 => ?_)
        exact X_iret rfl rfl rfl rfl rfl rfl rfl
      · refine X_if (fun c1_3 => ?_) (fun c1_3 => ?_)
        · refine X_tswIn (v := 3) (len := 51) (tgt := 67) (off := 66) rfl rfl c1_3 (by decide) (by decide) rfl rfl ?_
          refine X_aload_n rfl rfl rfl ?_
          refine X_getI rfl rfl (fun v68 => ?_)
          exact X_iret rfl rfl rfl rfl rfl rfl rfl
        · refine X_if (fun c1_4 => ?_) (fun c1_4 => ?_)
          · refine X_tswIn (v := 4) (len := 51) (tgt := 72) (off := 71) rfl rfl c1_4 (by decide) (by decide) rfl rfl ?_
            refine X_aload_n rfl rfl rfl ?_
            refine X_getI rfl rfl (fun v73 => ?_)
            exact X_iret rfl rfl rfl rfl rfl rfl rfl
          · refine X_if (fun c1_5 => ?_) (fun c1_5 => ?_)
            · refine X_tswIn (v := 5) (len := 51) (tgt := 77) (off := 76) rfl rfl c1_5 (by decide) (by decide) rfl rfl ?_
              refine X_aload_n rfl rfl rfl ?_
              refine X_callV_IR (M' := M_X3_emptyPlaces) (nA := 0) (As := []) (st := []) (b := a0) (ci := 3) rfl rfl (by decide +kernel) rfl rfl rfl rfl rfl rfl rfl rfl (fun _ e => ct_X3_emptyPlaces e) (fun v78 => ?_)
              exact X_iret rfl rfl rfl rfl rfl rfl rfl
            · refine X_if (fun c1_6 => ?_) (fun c1_6 => ?_)
              · refine X_tswIn (v := 6) (len := 51) (tgt := 82) (off := 81) rfl rfl c1_6 (by decide) (by decide) rfl rfl ?_
                refine X_aload_n rfl rfl rfl ?_
                refine X_callV_IR (M' := M_X3_wrongPlaces) (nA := 0) (As := []) (st := []) (b := a0) (ci := 3) rfl rfl (by decide +kernel) rfl rfl rfl rfl rfl rfl rfl rfl (fun _ e => ct_X3_wrongPlaces e) (fun v83 => ?_)
                exact X_iret rfl rfl rfl rfl rfl rfl rfl
              · refine X_if (fun c1_7 => ?_) (fun c1_7 => ?_)
                · refine X_tswIn (v := 7) (len := 51) (tgt := 87) (off := 86) rfl rfl c1_7 (by decide) (by decide) rfl rfl ?_
                  refine X_aload_n rfl rfl rfl ?_
                  refine X_callV_IR (M' := M_X3_allTries) (nA := 0) (As := []) (st := []) (b := a0) (ci := 3) rfl rfl (by decide +kernel) rfl rfl rfl rfl rfl rfl rfl rfl (fun _ e => ct_X3_allTries e) (fun v88 => ?_)
                  exact X_iret rfl rfl rfl rfl rfl rfl rfl
                · refine X_if (fun c1_8 => ?_) (fun c1_8 => ?_)
                  · refine X_tswIn (v := 8) (len := 51) (tgt := 92) (off := 91) rfl rfl c1_8 (by decide) (by decide) rfl rfl ?_
                    refine X_aload_n rfl rfl rfl ?_
                    refine X_getI rfl rfl (fun v93 => ?_)
                    exact X_iret rfl rfl rfl rfl rfl rfl rfl
                  · refine X_tswOut (len := 51) (tgt := 97) rfl rfl (by have := g_neI c1_0 (show Int32.toInt (0) = 0 by decide) ; have := g_neI c1_1 (show Int32.toInt (1) = 1 by decide) ; have := g_neI c1_2 (show Int32.toInt (2) = 2 by decide) ; have := g_neI c1_3 (show Int32.toInt (3) = 3 by decide) ; have := g_neI c1_4 (show Int32.toInt (4) = 4 by decide) ; have := g_neI c1_5 (show Int32.toInt (5) = 5 by decide) ; have := g_neI c1_6 (show Int32.toInt (6) = 6 by decide) ; have := g_neI c1_7 (show Int32.toInt (7) = 7 by decide) ; have := g_neI c1_8 (show Int32.toInt (8) = 8 by decide); omega) rfl ?_
                    refine X_aload_n rfl rfl rfl ?_
                    refine X_getI rfl rfl (fun v98 => ?_)
                    exact X_iret rfl rfl rfl rfl rfl rfl rfl
def f_X3_agrees (h : gH) (a0 : Nat) : Option (Int32) :=
  (g_gI h a0 3 5).bind fun v1 =>
  (if v1 = 2 then
    bif g_is h a0 3 then
    (f_X3_emptyPlaces h a0).bind fun v9 =>
    (if v9 = 0 then
      bif g_is h a0 3 then
      (f_X3_wrongPlaces h a0).bind fun v16 =>
      (if v16 = 0 then
        some 1
      else
        some 0)
      else none
    else
      some 0)
    else none
  else
    some 0)
set_option maxRecDepth 100000 in
theorem ct_X3_agrees {l : Launch} {G : gG} {h : gH} {a0 : Nat} {r : Int32} (e : f_X3_agrees h a0 = some r) : Ct l G M_X3_agrees [.ref a0] h (some (.int r)) h := by
  refine Ct_of (L := [some (.ref a0)]) ok_X3_agrees (by decide +kernel) rfl rfl rfl (ρ := (g_rI h)) (F := f_X3_agrees h a0) ?_ e rfl
  unfold f_X3_agrees
  refine X_aload_n rfl rfl rfl ?_
  refine X_getI rfl rfl (fun v1 => ?_)
  refine X_iconst (v := 2) rfl rfl (by decide) ?_
  refine X_bicmp_ne rfl rfl (fun _ => ?_) (fun _ => ?_)
  · refine X_aload_n rfl rfl rfl ?_
    refine X_callV_IR (M' := M_X3_emptyPlaces) (nA := 0) (As := []) (st := []) (b := a0) (ci := 3) rfl rfl (by decide +kernel) rfl rfl rfl rfl rfl rfl rfl rfl (fun _ e => ct_X3_emptyPlaces e) (fun v9 => ?_)
    refine X_bif_ne rfl rfl (fun _ => ?_) (fun _ => ?_)
    · refine X_aload_n rfl rfl rfl ?_
      refine X_callV_IR (M' := M_X3_wrongPlaces) (nA := 0) (As := []) (st := []) (b := a0) (ci := 3) rfl rfl (by decide +kernel) rfl rfl rfl rfl rfl rfl rfl rfl (fun _ e => ct_X3_wrongPlaces e) (fun v16 => ?_)
      refine X_bif_ne rfl rfl (fun _ => ?_) (fun _ => ?_)
      · refine X_iconst (v := 1) rfl rfl (by decide) ?_
        refine X_goto rfl rfl ?_
        exact X_iret rfl rfl rfl rfl rfl rfl rfl
      · refine X_iconst (v := 0) rfl rfl (by decide) ?_
        exact X_iret rfl rfl rfl rfl rfl rfl rfl
    · refine X_iconst (v := 0) rfl rfl (by decide) ?_
      exact X_iret rfl rfl rfl rfl rfl rfl rfl
  · refine X_iconst (v := 0) rfl rfl (by decide) ?_
    exact X_iret rfl rfl rfl rfl rfl rfl rfl
def f_X3_canBeCancelled_b15 (h : gH) : Option (Int32) :=
  some 1
def f_X3_canBeCancelled (h : gH) (a0 : Nat) : Option (Int32) :=
  (g_gI h a0 3 5).bind fun v1 =>
  (if v1 = 0 then
    f_X3_canBeCancelled_b15 h
  else
    (g_gI h a0 3 5).bind fun v8 =>
    (if v8 = 1 then
      f_X3_canBeCancelled_b15 h
    else
      some 0))
set_option maxRecDepth 100000 in
theorem b_X3_canBeCancelled_b15 {l : Launch} {G : gG} {h : gH} : GX l G M_X3_canBeCancelled (g_phi G (g_rI h) (m_R M_X3_canBeCancelled).cells (m_R M_X3_canBeCancelled).slots) 0 0 15 [none] [] h (f_X3_canBeCancelled_b15 h) := by
  unfold f_X3_canBeCancelled_b15
  refine X_iconst (v := 1) rfl rfl (by decide) ?_
  refine X_goto rfl rfl ?_
  exact X_iret rfl rfl rfl rfl rfl rfl rfl
set_option maxRecDepth 100000 in
theorem ct_X3_canBeCancelled {l : Launch} {G : gG} {h : gH} {a0 : Nat} {r : Int32} (e : f_X3_canBeCancelled h a0 = some r) : Ct l G M_X3_canBeCancelled [.ref a0] h (some (.int r)) h := by
  refine Ct_of (L := [some (.ref a0)]) ok_X3_canBeCancelled (by decide +kernel) rfl rfl rfl (ρ := (g_rI h)) (F := f_X3_canBeCancelled h a0) ?_ e rfl
  unfold f_X3_canBeCancelled
  refine X_aload_n rfl rfl rfl ?_
  refine X_getI rfl rfl (fun v1 => ?_)
  refine X_bif_eq rfl rfl (fun _ => ?_) (fun _ => ?_)
  · exact X_sub (g_sub_n g_sub_0) (b_X3_canBeCancelled_b15  )
  · refine X_aload_n rfl rfl rfl ?_
    refine X_getI rfl rfl (fun v8 => ?_)
    refine X_iconst (v := 1) rfl rfl (by decide) ?_
    refine X_bicmp_ne rfl rfl (fun _ => ?_) (fun _ => ?_)
    · exact X_sub (g_sub_n g_sub_0) (b_X3_canBeCancelled_b15  )
    · refine X_iconst (v := 0) rfl rfl (by decide) ?_
      exact X_iret rfl rfl rfl rfl rfl rfl rfl
def f_X3_hasPlace (h : gH) (a0 : Nat) (p1 : Int32) : Option (Int32) :=
  (if 0 ≤ p1 then
    (g_gI h a0 3 2).bind fun v6 =>
    (if p1 < v6 then
      some 1
    else
      some 0)
  else
    some 0)
set_option maxRecDepth 100000 in
theorem ct_X3_hasPlace {l : Launch} {G : gG} {h : gH} {a0 : Nat} {p1 : Int32} {r : Int32} (e : f_X3_hasPlace h a0 p1 = some r) : Ct l G M_X3_hasPlace [.ref a0, .int p1] h (some (.int r)) h := by
  refine Ct_of (L := [some (.ref a0), some (.int p1)]) ok_X3_hasPlace (by decide +kernel) rfl rfl rfl (ρ := (g_rI h)) (F := f_X3_hasPlace h a0 p1) ?_ e rfl
  unfold f_X3_hasPlace
  refine X_iload_n rfl rfl rfl ?_
  refine X_bif_lt rfl rfl (fun _ => ?_) (fun _ => ?_)
  · refine X_iload_n rfl rfl rfl ?_
    refine X_aload_n rfl rfl rfl ?_
    refine X_getI rfl rfl (fun v6 => ?_)
    refine X_bicmp_ge rfl rfl (fun _ => ?_) (fun _ => ?_)
    · refine X_iconst (v := 1) rfl rfl (by decide) ?_
      refine X_goto rfl rfl ?_
      exact X_iret rfl rfl rfl rfl rfl rfl rfl
    · refine X_iconst (v := 0) rfl rfl (by decide) ?_
      exact X_iret rfl rfl rfl rfl rfl rfl rfl
  · refine X_iconst (v := 0) rfl rfl (by decide) ?_
    exact X_iret rfl rfl rfl rfl rfl rfl rfl
def f_X3_reasonAt_b61 (h : gH) : Option (Int32) :=
  some 1
def f_X3_reasonAt_b51 (h : gH) (s0 : Int32) : Option (Int32) :=
  (if s0 = 0 then
    f_X3_reasonAt_b61 h
  else
    (if s0 = 1 then
      f_X3_reasonAt_b61 h
    else
      some 2))
def f_X3_reasonAt (h : gH) (a0 : Nat) (p1 : Int32) : Option (Int32) :=
  bif g_is h a0 3 then
  (f_X3_loggedAt h a0 p1).bind fun v2 =>
  bif g_is h a0 3 then
  (f_X3_letterAt h a0 p1).bind fun v7 =>
  (if v2 = v7 then
    some 0
  else
    bif g_is h a0 3 then
    (f_X3_loggedAt h a0 p1).bind fun v17 =>
    (if v17 = (-1) then
      (g_gI h a0 3 3).bind fun v27 =>
      (if v27 < 1 then
        f_X3_reasonAt_b51 h 0
      else
        (g_gA h a0 3 11).bind fun v39 =>
        (g_gI h a0 3 3).bind fun v44 =>
        if v44 = 0 then none else
        (f_X7_valueAt h v39 (p1 / v44)).bind fun v48 =>
        f_X3_reasonAt_b51 h v48)
    else
      some 3)
    else none)
  else none
  else none
set_option maxRecDepth 100000 in
theorem b_X3_reasonAt_b61 {l : Launch} {G : gG} {h : gH} : GX l G M_X3_reasonAt (g_phi G (g_rI h) (m_R M_X3_reasonAt).cells (m_R M_X3_reasonAt).slots) 0 0 61 [none, none, none] [] h (f_X3_reasonAt_b61 h) := by
  unfold f_X3_reasonAt_b61
  refine X_iconst (v := 1) rfl rfl (by decide) ?_
  refine X_goto rfl rfl ?_
  exact X_iret rfl rfl rfl rfl rfl rfl rfl
set_option maxRecDepth 100000 in
theorem b_X3_reasonAt_b51 {l : Launch} {G : gG} {h : gH} (s0 : Int32) : GX l G M_X3_reasonAt (g_phi G (g_rI h) (m_R M_X3_reasonAt).cells (m_R M_X3_reasonAt).slots) 0 0 51 [none, none, none] [.int s0] h (f_X3_reasonAt_b51 h s0) := by
  unfold f_X3_reasonAt_b51
  refine X_istore_n rfl rfl rfl rfl ?_
  refine X_iload_n rfl rfl rfl ?_
  refine X_bif_eq rfl rfl (fun _ => ?_) (fun _ => ?_)
  · exact X_sub (g_sub_n (g_sub_n (g_sub_n g_sub_0))) (b_X3_reasonAt_b61  )
  · refine X_iload_n rfl rfl rfl ?_
    refine X_iconst (v := 1) rfl rfl (by decide) ?_
    refine X_bicmp_ne rfl rfl (fun _ => ?_) (fun _ => ?_)
    · exact X_sub (g_sub_n (g_sub_n (g_sub_n g_sub_0))) (b_X3_reasonAt_b61  )
    · refine X_iconst (v := 2) rfl rfl (by decide) ?_
      exact X_iret rfl rfl rfl rfl rfl rfl rfl
set_option maxRecDepth 100000 in
theorem ct_X3_reasonAt {l : Launch} {G : gG} {h : gH} {a0 : Nat} {p1 : Int32} {r : Int32} (e : f_X3_reasonAt h a0 p1 = some r) : Ct l G M_X3_reasonAt [.ref a0, .int p1] h (some (.int r)) h := by
  refine Ct_of (L := [some (.ref a0), some (.int p1), none]) ok_X3_reasonAt (by decide +kernel) rfl rfl rfl (ρ := (g_rI h)) (F := f_X3_reasonAt h a0 p1) ?_ e rfl
  unfold f_X3_reasonAt
  refine X_aload_n rfl rfl rfl ?_
  refine X_iload_n rfl rfl rfl ?_
  refine X_callV_IR (M' := M_X3_loggedAt) (nA := 1) (As := [.int p1]) (st := []) (b := a0) (ci := 3) rfl rfl (by decide +kernel) rfl rfl rfl rfl rfl rfl rfl rfl (fun _ e => ct_X3_loggedAt e) (fun v2 => ?_)
  refine X_aload_n rfl rfl rfl ?_
  refine X_iload_n rfl rfl rfl ?_
  refine X_callV_IR (M' := M_X3_letterAt) (nA := 1) (As := [.int p1]) (st := [.int v2]) (b := a0) (ci := 3) rfl rfl (by decide +kernel) rfl rfl rfl rfl rfl rfl rfl rfl (fun _ e => ct_X3_letterAt e) (fun v7 => ?_)
  refine X_bicmp_ne rfl rfl (fun _ => ?_) (fun _ => ?_)
  · refine X_iconst (v := 0) rfl rfl (by decide) ?_
    exact X_iret rfl rfl rfl rfl rfl rfl rfl
  · refine X_aload_n rfl rfl rfl ?_
    refine X_iload_n rfl rfl rfl ?_
    refine X_callV_IR (M' := M_X3_loggedAt) (nA := 1) (As := [.int p1]) (st := []) (b := a0) (ci := 3) rfl rfl (by decide +kernel) rfl rfl rfl rfl rfl rfl rfl rfl (fun _ e => ct_X3_loggedAt e) (fun v17 => ?_)
    refine X_iconst (v := -1) rfl rfl (by decide) ?_
    refine X_bicmp_eq rfl rfl (fun _ => ?_) (fun _ => ?_)
    · refine X_aload_n rfl rfl rfl ?_
      refine X_getI rfl rfl (fun v27 => ?_)
      refine X_iconst (v := 1) rfl rfl (by decide) ?_
      refine X_bicmp_ge rfl rfl (fun _ => ?_) (fun _ => ?_)
      · refine X_iconst (v := 0) rfl rfl (by decide) ?_
        refine X_goto rfl rfl ?_
        exact X_sub (g_sub_n (g_sub_n (g_sub_n g_sub_0))) (b_X3_reasonAt_b51  _)
      · refine X_aload_n rfl rfl rfl ?_
        refine X_getA rfl rfl (fun v39 => ?_)
        refine X_iload_n rfl rfl rfl ?_
        refine X_aload_n rfl rfl rfl ?_
        refine X_getI rfl rfl (fun v44 => ?_)
        refine X_if (fun _ => X_none) (fun hz => ?_)
        refine X_idiv (v := p1 / v44) rfl rfl rfl hz ?_
        refine X_callSN_IR (M' := M_X7_valueAt) (nA := 2) (As := [.ref v39, .int (p1 / v44)]) (st := []) rfl rfl (by decide +kernel) rfl rfl rfl rfl rfl rfl rfl (fun _ e => ct_X7_valueAt e) (fun v48 => ?_)
        exact X_sub (g_sub_n (g_sub_n (g_sub_n g_sub_0))) (b_X3_reasonAt_b51  _)
    · refine X_iconst (v := 3) rfl rfl (by decide) ?_
      exact X_iret rfl rfl rfl rfl rfl rfl rfl
def f_X3_addedTo_b35 (h : gH) : Nat → Nat → Int64 → Int32 → Option (Int64)
  | 0, _, _, _ => none
  | n + 1, l0, l3, l5 =>
    (g_gI h l0 3 2).bind fun v38 =>
    (if l5 < v38 then
      bif g_is h l0 3 then
      (f_X3_loggedAt h l0 l5).bind fun v52 =>
      bif g_is h l0 3 then
      (f_X3_reasonAt h l0 l5).bind fun v66 =>
      f_X3_addedTo_b35 h n l0 ((31 * ((31 * l3) + (Int32.toInt64 v52))) + (Int32.toInt64 v66)) (l5 + 1)
      else none
      else none
    else
      some l3)
def f_X3_addedTo_b5 (h : gH) : Nat → Nat → Int64 → Int32 → Option (Int64)
  | 0, _, _, _ => none
  | n + 1, l0, l3, l5 =>
    (if l5 < 10 then
      bif g_is h l0 3 then
      (f_X3_figure h l0 l5).bind fun v20 =>
      f_X3_addedTo_b5 h n l0 ((31 * l3) + (Int32.toInt64 v20)) (l5 + 1)
      else none
    else
      f_X3_addedTo_b35 h g_N l0 l3 0)
def f_X3_addedTo (h : gH) (a0 : Nat) (p1 : Int64) : Option (Int64) :=
  f_X3_addedTo_b5 h g_N a0 p1 0
set_option maxRecDepth 100000 in
theorem b_X3_addedTo_b35 {l : Launch} {G : gG} {h : gH} : ∀ (n : Nat) (l0 : Nat) (l3 : Int64) (l5 : Int32), GX l G M_X3_addedTo (g_phi G (g_rL h) (m_R M_X3_addedTo).cells (m_R M_X3_addedTo).slots) 0 0 35 [some (.ref l0), none, none, some (.long l3), none, some (.int l5)] [] h (f_X3_addedTo_b35 h n l0 l3 l5) := by
  intro n
  induction n with
  | zero => intros; exact X_none
  | succ n ih =>
    intro l0 l3 l5
    rw [f_X3_addedTo_b35]
    refine X_iload rfl rfl rfl ?_
    refine X_aload_n rfl rfl rfl ?_
    refine X_getI rfl rfl (fun v38 => ?_)
    refine X_bicmp_ge rfl rfl (fun _ => ?_) (fun _ => ?_)
    · refine X_ldc2 (v := 31) rfl rfl (by decide +kernel) ?_
      refine X_lload_n rfl rfl rfl ?_
      refine X_lmul rfl rfl ?_
      refine X_aload_n rfl rfl rfl ?_
      refine X_iload rfl rfl rfl ?_
      refine X_callV_IR (M' := M_X3_loggedAt) (nA := 1) (As := [.int l5]) (st := [.long (31 * l3)]) (b := l0) (ci := 3) rfl rfl (by decide +kernel) rfl rfl rfl rfl rfl rfl rfl rfl (fun _ e => ct_X3_loggedAt e) (fun v52 => ?_)
      refine X_i2l rfl rfl ?_
      refine X_ladd rfl rfl ?_
      refine X_lstore_n rfl rfl rfl rfl ?_
      refine X_ldc2 (v := 31) rfl rfl (by decide +kernel) ?_
      refine X_lload_n rfl rfl rfl ?_
      refine X_lmul rfl rfl ?_
      refine X_aload_n rfl rfl rfl ?_
      refine X_iload rfl rfl rfl ?_
      refine X_callV_IR (M' := M_X3_reasonAt) (nA := 1) (As := [.int l5]) (st := [.long (31 * ((31 * l3) + (Int32.toInt64 v52)))]) (b := l0) (ci := 3) rfl rfl (by decide +kernel) rfl rfl rfl rfl rfl rfl rfl rfl (fun _ e => ct_X3_reasonAt e) (fun v66 => ?_)
      refine X_i2l rfl rfl ?_
      refine X_ladd rfl rfl ?_
      refine X_lstore_n rfl rfl rfl rfl ?_
      refine X_iinc (v := l5 + 1) rfl rfl rfl (congrArg (fun z => l5 + z) (by decide : Int32.ofInt 1 = 1)) rfl ?_
      refine X_goto rfl rfl ?_
      exact X_sub (g_sub_s (g_sub_n (g_sub_n (g_sub_s (g_sub_n (g_sub_s g_sub_0)))))) (ih _ _ _)
    · refine X_lload_n rfl rfl rfl ?_
      exact X_lret rfl rfl rfl rfl rfl rfl
set_option maxRecDepth 100000 in
theorem b_X3_addedTo_b5 {l : Launch} {G : gG} {h : gH} : ∀ (n : Nat) (l0 : Nat) (l3 : Int64) (l5 : Int32), GX l G M_X3_addedTo (g_phi G (g_rL h) (m_R M_X3_addedTo).cells (m_R M_X3_addedTo).slots) 0 0 5 [some (.ref l0), none, none, some (.long l3), none, some (.int l5)] [] h (f_X3_addedTo_b5 h n l0 l3 l5) := by
  intro n
  induction n with
  | zero => intros; exact X_none
  | succ n ih =>
    intro l0 l3 l5
    rw [f_X3_addedTo_b5]
    refine X_iload rfl rfl rfl ?_
    refine X_bipush (v := 10) rfl rfl (by decide) ?_
    refine X_bicmp_ge rfl rfl (fun _ => ?_) (fun _ => ?_)
    · refine X_ldc2 (v := 31) rfl rfl (by decide +kernel) ?_
      refine X_lload_n rfl rfl rfl ?_
      refine X_lmul rfl rfl ?_
      refine X_aload_n rfl rfl rfl ?_
      refine X_iload rfl rfl rfl ?_
      refine X_callV_IR (M' := M_X3_figure) (nA := 1) (As := [.int l5]) (st := [.long (31 * l3)]) (b := l0) (ci := 3) rfl rfl (by decide +kernel) rfl rfl rfl rfl rfl rfl rfl rfl (fun _ e => ct_X3_figure e) (fun v20 => ?_)
      refine X_i2l rfl rfl ?_
      refine X_ladd rfl rfl ?_
      refine X_lstore_n rfl rfl rfl rfl ?_
      refine X_iinc (v := l5 + 1) rfl rfl rfl (congrArg (fun z => l5 + z) (by decide : Int32.ofInt 1 = 1)) rfl ?_
      refine X_goto rfl rfl ?_
      exact X_sub (g_sub_s (g_sub_n (g_sub_n (g_sub_s (g_sub_n (g_sub_s g_sub_0)))))) (ih _ _ _)
    · refine X_iconst (v := 0) rfl rfl (by decide) ?_
      refine X_istore rfl rfl rfl rfl ?_
      exact X_sub (g_sub_s (g_sub_n (g_sub_n (g_sub_s (g_sub_n (g_sub_s g_sub_0)))))) (b_X3_addedTo_b35  _ _ _ _)
set_option maxRecDepth 100000 in
theorem ct_X3_addedTo {l : Launch} {G : gG} {h : gH} {a0 : Nat} {p1 : Int64} {r : Int64} (e : f_X3_addedTo h a0 p1 = some r) : Ct l G M_X3_addedTo [.ref a0, .long p1] h (some (.long r)) h := by
  refine Ct_of (L := [some (.ref a0), some (.long p1), none, none, none, none]) ok_X3_addedTo (by decide +kernel) rfl rfl rfl (ρ := (g_rL h)) (F := f_X3_addedTo h a0 p1) ?_ e rfl
  unfold f_X3_addedTo
  refine X_lload_n rfl rfl rfl ?_
  refine X_lstore_n rfl rfl rfl rfl ?_
  refine X_iconst (v := 0) rfl rfl (by decide) ?_
  refine X_istore rfl rfl rfl rfl ?_
  exact X_sub (g_sub_s (g_sub_n (g_sub_n (g_sub_s (g_sub_n (g_sub_s g_sub_0)))))) (b_X3_addedTo_b5  _ _ _ _)
def f_X3_start (h : gH) (a0 : Nat) (p1 : Int32) : Option gH :=
  (g_put h a0 3 5 (.int 1)).bind fun h2 =>
  (g_put h2 a0 3 6 (.int p1)).bind fun h7 =>
  some h7
set_option maxRecDepth 100000 in
theorem ct_X3_start {l : Launch} {G : gG} {h : gH} {a0 : Nat} {p1 : Int32} {h1 : gH} (e : f_X3_start h a0 p1 = some h1) : Ct l G M_X3_start [.ref a0, .int p1] h none h1 := by
  refine Ct_of (L := [some (.ref a0), some (.int p1)]) ok_X3_start (by decide +kernel) rfl rfl rfl (ρ := g_wU) (F := f_X3_start h a0 p1) ?_ e rfl
  unfold f_X3_start
  refine X_aload_n rfl rfl rfl ?_
  refine X_iconst (v := 1) rfl rfl (by decide) ?_
  refine X_put rfl rfl rfl rfl rfl (fun h2 => ?_)
  refine X_aload_n rfl rfl rfl ?_
  refine X_iload_n rfl rfl rfl ?_
  refine X_put rfl rfl rfl rfl rfl (fun h7 => ?_)
  exact X_vret rfl rfl rfl rfl rfl rfl
def f_X3_end (h : gH) (a0 : Nat) (p1 : Int32) (p2 : Int32) : Option gH :=
  (g_put h a0 3 5 (.int p1)).bind fun h2 =>
  (g_put h2 a0 3 7 (.int p2)).bind fun h7 =>
  some h7
set_option maxRecDepth 100000 in
theorem ct_X3_end {l : Launch} {G : gG} {h : gH} {a0 : Nat} {p1 : Int32} {p2 : Int32} {h1 : gH} (e : f_X3_end h a0 p1 p2 = some h1) : Ct l G M_X3_end [.ref a0, .int p1, .int p2] h none h1 := by
  refine Ct_of (L := [some (.ref a0), some (.int p1), some (.int p2)]) ok_X3_end (by decide +kernel) rfl rfl rfl (ρ := g_wU) (F := f_X3_end h a0 p1 p2) ?_ e rfl
  unfold f_X3_end
  refine X_aload_n rfl rfl rfl ?_
  refine X_iload_n rfl rfl rfl ?_
  refine X_put rfl rfl rfl rfl rfl (fun h2 => ?_)
  refine X_aload_n rfl rfl rfl ?_
  refine X_iload_n rfl rfl rfl ?_
  refine X_put rfl rfl rfl rfl rfl (fun h7 => ?_)
  exact X_vret rfl rfl rfl rfl rfl rfl
def f_X3_takeOpenFrame_b2 : Nat → gH → Nat → Int32 → Option (Int32 × gH)
  | 0, _, _, _ => none
  | n + 1, h, l0, l1 =>
    (g_gI h l0 3 4).bind fun v4 =>
    (if l1 < v4 then
      (g_gA h l0 3 11).bind fun v11 =>
      (f_X7_valueAt h v11 l1).bind fun v15 =>
      (if v15 = 0 then
        (g_gA h l0 3 11).bind fun v22 =>
        (f_X7_setAt h v22 l1 1).bind fun h27 =>
        some (l1, h27)
      else
        f_X3_takeOpenFrame_b2  n h l0 (l1 + 1))
    else
      some (-1, h))
def f_X3_takeOpenFrame (h : gH) (a0 : Nat) : Option (Int32 × gH) :=
  f_X3_takeOpenFrame_b2 g_N h a0 0
set_option maxRecDepth 100000 in
theorem b_X3_takeOpenFrame_b2 {l : Launch} {G : gG} : ∀ (n : Nat) (h : gH) (l0 : Nat) (l1 : Int32), GX l G M_X3_takeOpenFrame (g_phi G g_wI (m_R M_X3_takeOpenFrame).cells (m_R M_X3_takeOpenFrame).slots) 0 0 2 [some (.ref l0), some (.int l1)] [] h (f_X3_takeOpenFrame_b2 n h l0 l1) := by
  intro n
  induction n with
  | zero => intros; exact X_none
  | succ n ih =>
    intro h l0 l1
    rw [f_X3_takeOpenFrame_b2]
    refine X_iload_n rfl rfl rfl ?_
    refine X_aload_n rfl rfl rfl ?_
    refine X_getI rfl rfl (fun v4 => ?_)
    refine X_bicmp_ge rfl rfl (fun _ => ?_) (fun _ => ?_)
    · refine X_aload_n rfl rfl rfl ?_
      refine X_getA rfl rfl (fun v11 => ?_)
      refine X_iload_n rfl rfl rfl ?_
      refine X_callSN_IR (M' := M_X7_valueAt) (nA := 2) (As := [.ref v11, .int l1]) (st := []) rfl rfl (by decide +kernel) rfl rfl rfl rfl rfl rfl rfl (fun _ e => ct_X7_valueAt e) (fun v15 => ?_)
      refine X_bif_ne rfl rfl (fun _ => ?_) (fun _ => ?_)
      · refine X_aload_n rfl rfl rfl ?_
        refine X_getA rfl rfl (fun v22 => ?_)
        refine X_iload_n rfl rfl rfl ?_
        refine X_iconst (v := 1) rfl rfl (by decide) ?_
        refine X_callSN_UW (M' := M_X7_setAt) (nA := 3) (As := [.ref v22, .int l1, .int 1]) (st := []) rfl rfl (by decide +kernel) rfl rfl rfl rfl rfl rfl rfl (fun _ e => ct_X7_setAt e) (fun h27 => ?_)
        refine X_iload_n rfl rfl rfl ?_
        exact X_iret rfl rfl rfl rfl rfl rfl rfl
      · refine X_iinc (v := l1 + 1) rfl rfl rfl (congrArg (fun z => l1 + z) (by decide : Int32.ofInt 1 = 1)) rfl ?_
        refine X_goto rfl rfl ?_
        exact X_sub (g_sub_s (g_sub_s g_sub_0)) (ih _ _ _)
    · refine X_iconst (v := -1) rfl rfl (by decide) ?_
      exact X_iret rfl rfl rfl rfl rfl rfl rfl
set_option maxRecDepth 100000 in
theorem ct_X3_takeOpenFrame {l : Launch} {G : gG} {h : gH} {a0 : Nat} {r : Int32} {h1 : gH} (e : f_X3_takeOpenFrame h a0 = some (r, h1)) : Ct l G M_X3_takeOpenFrame [.ref a0] h (some (.int r)) h1 := by
  refine Ct_of (L := [some (.ref a0), none]) ok_X3_takeOpenFrame (by decide +kernel) rfl rfl rfl (ρ := g_wI) (F := f_X3_takeOpenFrame h a0) ?_ e rfl
  unfold f_X3_takeOpenFrame
  refine X_iconst (v := 0) rfl rfl (by decide) ?_
  refine X_istore_n rfl rfl rfl rfl ?_
  exact X_sub (g_sub_s (g_sub_s g_sub_0)) (b_X3_takeOpenFrame_b2  _ _ _ _)
def f_X3_firstPlaceOf (h : gH) (a0 : Nat) (p1 : Int32) : Option (Int32) :=
  (g_gI h a0 3 3).bind fun v2 =>
  some (p1 * v2)
set_option maxRecDepth 100000 in
theorem ct_X3_firstPlaceOf {l : Launch} {G : gG} {h : gH} {a0 : Nat} {p1 : Int32} {r : Int32} (e : f_X3_firstPlaceOf h a0 p1 = some r) : Ct l G M_X3_firstPlaceOf [.ref a0, .int p1] h (some (.int r)) h := by
  refine Ct_of (L := [some (.ref a0), some (.int p1)]) ok_X3_firstPlaceOf (by decide +kernel) rfl rfl rfl (ρ := (g_rI h)) (F := f_X3_firstPlaceOf h a0 p1) ?_ e rfl
  unfold f_X3_firstPlaceOf
  refine X_iload_n rfl rfl rfl ?_
  refine X_aload_n rfl rfl rfl ?_
  refine X_getI rfl rfl (fun v2 => ?_)
  refine X_imul rfl rfl ?_
  exact X_iret rfl rfl rfl rfl rfl rfl rfl
def f_X3_lettersIn (h : gH) (a0 : Nat) (p1 : Int32) : Option (Int32) :=
  (g_gI h a0 3 3).bind fun v1 =>
  (g_gI h a0 3 2).bind fun v5 =>
  bif g_is h a0 3 then
  (f_X3_firstPlaceOf h a0 p1).bind fun v10 =>
  some (g_min v1 (v5 - v10))
  else none
set_option maxRecDepth 100000 in
theorem ct_X3_lettersIn {l : Launch} {G : gG} {h : gH} {a0 : Nat} {p1 : Int32} {r : Int32} (e : f_X3_lettersIn h a0 p1 = some r) : Ct l G M_X3_lettersIn [.ref a0, .int p1] h (some (.int r)) h := by
  refine Ct_of (L := [some (.ref a0), some (.int p1)]) ok_X3_lettersIn (by decide +kernel) rfl rfl rfl (ρ := (g_rI h)) (F := f_X3_lettersIn h a0 p1) ?_ e rfl
  unfold f_X3_lettersIn
  refine X_aload_n rfl rfl rfl ?_
  refine X_getI rfl rfl (fun v1 => ?_)
  refine X_aload_n rfl rfl rfl ?_
  refine X_getI rfl rfl (fun v5 => ?_)
  refine X_aload_n rfl rfl rfl ?_
  refine X_iload_n rfl rfl rfl ?_
  refine X_callV_IR (M' := M_X3_firstPlaceOf) (nA := 1) (As := [.int p1]) (st := [.int v5, .int v1]) (b := a0) (ci := 3) rfl rfl (by decide +kernel) rfl rfl rfl rfl rfl rfl rfl rfl (fun _ e => ct_X3_firstPlaceOf e) (fun v10 => ?_)
  refine X_isub rfl rfl ?_
  refine X_mmin rfl rfl (by decide +kernel) (by decide +kernel) (by decide +kernel) (by decide +kernel) rfl rfl rfl rfl ?_
  exact X_iret rfl rfl rfl rfl rfl rfl rfl
def f_X3_checkOf_b11 (h : gH) : Nat → Nat → Int32 → Int32 → Int32 → Int32 → Option (Int32)
  | 0, _, _, _, _, _ => none
  | n + 1, l0, l1, l2, l3, l4 =>
    bif g_is h l0 3 then
    (f_X3_lettersIn h l0 l1).bind fun v15 =>
    (if l4 < v15 then
      bif g_is h l0 3 then
      (f_X3_letterAt h l0 (l3 + l4)).bind fun v27 =>
      f_X3_checkOf_b11 h n l0 l1 (l2 + v27) l3 (l4 + 1)
      else none
    else
      some (g_rem l2 26))
    else none
def f_X3_checkOf (h : gH) (a0 : Nat) (p1 : Int32) : Option (Int32) :=
  bif g_is h a0 3 then
  (f_X3_firstPlaceOf h a0 p1).bind fun v4 =>
  f_X3_checkOf_b11 h g_N a0 p1 p1 v4 0
  else none
set_option maxRecDepth 100000 in
theorem b_X3_checkOf_b11 {l : Launch} {G : gG} {h : gH} : ∀ (n : Nat) (l0 : Nat) (l1 : Int32) (l2 : Int32) (l3 : Int32) (l4 : Int32), GX l G M_X3_checkOf (g_phi G (g_rI h) (m_R M_X3_checkOf).cells (m_R M_X3_checkOf).slots) 0 0 11 [some (.ref l0), some (.int l1), some (.int l2), some (.int l3), some (.int l4)] [] h (f_X3_checkOf_b11 h n l0 l1 l2 l3 l4) := by
  intro n
  induction n with
  | zero => intros; exact X_none
  | succ n ih =>
    intro l0 l1 l2 l3 l4
    rw [f_X3_checkOf_b11]
    refine X_iload rfl rfl rfl ?_
    refine X_aload_n rfl rfl rfl ?_
    refine X_iload_n rfl rfl rfl ?_
    refine X_callV_IR (M' := M_X3_lettersIn) (nA := 1) (As := [.int l1]) (st := [.int l4]) (b := l0) (ci := 3) rfl rfl (by decide +kernel) rfl rfl rfl rfl rfl rfl rfl rfl (fun _ e => ct_X3_lettersIn e) (fun v15 => ?_)
    refine X_bicmp_ge rfl rfl (fun _ => ?_) (fun _ => ?_)
    · refine X_iload_n rfl rfl rfl ?_
      refine X_aload_n rfl rfl rfl ?_
      refine X_iload_n rfl rfl rfl ?_
      refine X_iload rfl rfl rfl ?_
      refine X_iadd rfl rfl ?_
      refine X_callV_IR (M' := M_X3_letterAt) (nA := 1) (As := [.int (l3 + l4)]) (st := [.int l2]) (b := l0) (ci := 3) rfl rfl (by decide +kernel) rfl rfl rfl rfl rfl rfl rfl rfl (fun _ e => ct_X3_letterAt e) (fun v27 => ?_)
      refine X_iadd rfl rfl ?_
      refine X_istore_n rfl rfl rfl rfl ?_
      refine X_iinc (v := l4 + 1) rfl rfl rfl (congrArg (fun z => l4 + z) (by decide : Int32.ofInt 1 = 1)) rfl ?_
      refine X_goto rfl rfl ?_
      exact X_sub (g_sub_s (g_sub_s (g_sub_s (g_sub_s (g_sub_s g_sub_0))))) (ih _ _ _ _ _)
    · refine X_iload_n rfl rfl rfl ?_
      refine X_bipush (v := 26) rfl rfl (by decide) ?_
      refine X_irem (v := g_rem l2 26) rfl rfl rfl (by decide) ?_
      exact X_iret rfl rfl rfl rfl rfl rfl rfl
set_option maxRecDepth 100000 in
theorem ct_X3_checkOf {l : Launch} {G : gG} {h : gH} {a0 : Nat} {p1 : Int32} {r : Int32} (e : f_X3_checkOf h a0 p1 = some r) : Ct l G M_X3_checkOf [.ref a0, .int p1] h (some (.int r)) h := by
  refine Ct_of (L := [some (.ref a0), some (.int p1), none, none, none]) ok_X3_checkOf (by decide +kernel) rfl rfl rfl (ρ := (g_rI h)) (F := f_X3_checkOf h a0 p1) ?_ e rfl
  unfold f_X3_checkOf
  refine X_iload_n rfl rfl rfl ?_
  refine X_istore_n rfl rfl rfl rfl ?_
  refine X_aload_n rfl rfl rfl ?_
  refine X_iload_n rfl rfl rfl ?_
  refine X_callV_IR (M' := M_X3_firstPlaceOf) (nA := 1) (As := [.int p1]) (st := []) (b := a0) (ci := 3) rfl rfl (by decide +kernel) rfl rfl rfl rfl rfl rfl rfl rfl (fun _ e => ct_X3_firstPlaceOf e) (fun v4 => ?_)
  refine X_istore_n rfl rfl rfl rfl ?_
  refine X_iconst (v := 0) rfl rfl (by decide) ?_
  refine X_istore rfl rfl rfl rfl ?_
  exact X_sub (g_sub_s (g_sub_s (g_sub_s (g_sub_s (g_sub_s g_sub_0))))) (b_X3_checkOf_b11  _ _ _ _ _ _)
def f_X3_writeDown_b68 (K19 : gH → Nat → Nat → Int32 → Int32 → Int32 → Option gH) (h : gH) (l0 : Nat) (l2 : Nat) (l3 : Int32) (l4 : Int32) (l5 : Int32) : Option gH :=
  K19 h l0 l2 l3 l4 (l5 + 1)
def f_X3_writeDown_b19 : Nat → gH → Nat → Nat → Int32 → Int32 → Int32 → Option gH
  | 0, _, _, _, _, _, _ => none
  | n + 1, h, l0, l2, l3, l4, l5 =>
    (if l5 < l3 then
      bif g_is h l0 3 then
      (f_X3_hasPlace h l0 (l4 + l5)).bind fun v31 =>
      (if v31 = 0 then
        f_X3_writeDown_b68 (f_X3_writeDown_b19  n) h l0 l2 l3 l4 l5
      else
        bif g_is h l0 3 then
        (f_X3_loggedAt h l0 (l4 + l5)).bind fun v43 =>
        (if v43 = (-1) then
          (g_gA h l0 3 10).bind fun v51 =>
          (f_X7_valueAt h l2 l5).bind fun v62 =>
          (f_X7_setAt h v51 (l4 + l5) v62).bind fun h65 =>
          f_X3_writeDown_b68 (f_X3_writeDown_b19  n) h65 l0 l2 l3 l4 l5
        else
          f_X3_writeDown_b68 (f_X3_writeDown_b19  n) h l0 l2 l3 l4 l5)
        else none)
      else none
    else
      some h)
def f_X3_writeDown (h : gH) (a0 : Nat) (p1 : Int32) (p2 : Nat) (p3 : Int32) : Option gH :=
  (g_gI h a0 3 4).bind fun v2 =>
  (if v2 ≤ p1 then
    some h
  else
    bif g_is h a0 3 then
    (f_X3_firstPlaceOf h a0 p1).bind fun v11 =>
    f_X3_writeDown_b19 g_N h a0 p2 p3 v11 0
    else none)
set_option maxRecDepth 100000 in
theorem b_X3_writeDown_b68 {l : Launch} {G : gG} {K19 : gH → Nat → Nat → Int32 → Int32 → Int32 → Option gH} (hK19 : ∀ (h : gH) (l0 : Nat) (l2 : Nat) (l3 : Int32) (l4 : Int32) (l5 : Int32), GX l G M_X3_writeDown (g_phi G g_wU (m_R M_X3_writeDown).cells (m_R M_X3_writeDown).slots) 0 0 19 [some (.ref l0), none, some (.ref l2), some (.int l3), some (.int l4), some (.int l5)] [] h (K19 h l0 l2 l3 l4 l5)) (h : gH) (l0 : Nat) (l2 : Nat) (l3 : Int32) (l4 : Int32) (l5 : Int32) : GX l G M_X3_writeDown (g_phi G g_wU (m_R M_X3_writeDown).cells (m_R M_X3_writeDown).slots) 0 0 68 [some (.ref l0), none, some (.ref l2), some (.int l3), some (.int l4), some (.int l5)] [] h (f_X3_writeDown_b68 K19 h l0 l2 l3 l4 l5) := by
  unfold f_X3_writeDown_b68
  refine X_iinc (v := l5 + 1) rfl rfl rfl (congrArg (fun z => l5 + z) (by decide : Int32.ofInt 1 = 1)) rfl ?_
  refine X_goto rfl rfl ?_
  exact X_sub (g_sub_s (g_sub_n (g_sub_s (g_sub_s (g_sub_s (g_sub_s g_sub_0)))))) (hK19 _ _ _ _ _ _)
set_option maxRecDepth 100000 in
theorem b_X3_writeDown_b19 {l : Launch} {G : gG} : ∀ (n : Nat) (h : gH) (l0 : Nat) (l2 : Nat) (l3 : Int32) (l4 : Int32) (l5 : Int32), GX l G M_X3_writeDown (g_phi G g_wU (m_R M_X3_writeDown).cells (m_R M_X3_writeDown).slots) 0 0 19 [some (.ref l0), none, some (.ref l2), some (.int l3), some (.int l4), some (.int l5)] [] h (f_X3_writeDown_b19 n h l0 l2 l3 l4 l5) := by
  intro n
  induction n with
  | zero => intros; exact X_none
  | succ n ih =>
    intro h l0 l2 l3 l4 l5
    rw [f_X3_writeDown_b19]
    refine X_iload rfl rfl rfl ?_
    refine X_iload_n rfl rfl rfl ?_
    refine X_bicmp_ge rfl rfl (fun _ => ?_) (fun _ => ?_)
    · refine X_aload_n rfl rfl rfl ?_
      refine X_iload rfl rfl rfl ?_
      refine X_iload rfl rfl rfl ?_
      refine X_iadd rfl rfl ?_
      refine X_callV_IR (M' := M_X3_hasPlace) (nA := 1) (As := [.int (l4 + l5)]) (st := []) (b := l0) (ci := 3) rfl rfl (by decide +kernel) rfl rfl rfl rfl rfl rfl rfl rfl (fun _ e => ct_X3_hasPlace e) (fun v31 => ?_)
      refine X_bif_eq rfl rfl (fun _ => ?_) (fun _ => ?_)
      · exact X_sub (g_sub_s (g_sub_n (g_sub_s (g_sub_s (g_sub_s (g_sub_s g_sub_0)))))) (b_X3_writeDown_b68 ih _ _ _ _ _ _)
      · refine X_aload_n rfl rfl rfl ?_
        refine X_iload rfl rfl rfl ?_
        refine X_iload rfl rfl rfl ?_
        refine X_iadd rfl rfl ?_
        refine X_callV_IR (M' := M_X3_loggedAt) (nA := 1) (As := [.int (l4 + l5)]) (st := []) (b := l0) (ci := 3) rfl rfl (by decide +kernel) rfl rfl rfl rfl rfl rfl rfl rfl (fun _ e => ct_X3_loggedAt e) (fun v43 => ?_)
        refine X_iconst (v := -1) rfl rfl (by decide) ?_
        refine X_bicmp_ne rfl rfl (fun _ => ?_) (fun _ => ?_)
        · refine X_aload_n rfl rfl rfl ?_
          refine X_getA rfl rfl (fun v51 => ?_)
          refine X_iload rfl rfl rfl ?_
          refine X_iload rfl rfl rfl ?_
          refine X_iadd rfl rfl ?_
          refine X_aload_n rfl rfl rfl ?_
          refine X_iload rfl rfl rfl ?_
          refine X_callSN_IR (M' := M_X7_valueAt) (nA := 2) (As := [.ref l2, .int l5]) (st := [.int (l4 + l5), .ref v51]) rfl rfl (by decide +kernel) rfl rfl rfl rfl rfl rfl rfl (fun _ e => ct_X7_valueAt e) (fun v62 => ?_)
          refine X_callSN_UW (M' := M_X7_setAt) (nA := 3) (As := [.ref v51, .int (l4 + l5), .int v62]) (st := []) rfl rfl (by decide +kernel) rfl rfl rfl rfl rfl rfl rfl (fun _ e => ct_X7_setAt e) (fun h65 => ?_)
          exact X_sub (g_sub_s (g_sub_n (g_sub_s (g_sub_s (g_sub_s (g_sub_s g_sub_0)))))) (b_X3_writeDown_b68 ih _ _ _ _ _ _)
        · exact X_sub (g_sub_s (g_sub_n (g_sub_s (g_sub_s (g_sub_s (g_sub_s g_sub_0)))))) (b_X3_writeDown_b68 ih _ _ _ _ _ _)
    · exact X_vret rfl rfl rfl rfl rfl rfl
set_option maxRecDepth 100000 in
theorem ct_X3_writeDown {l : Launch} {G : gG} {h : gH} {a0 : Nat} {p1 : Int32} {p2 : Nat} {p3 : Int32} {h1 : gH} (e : f_X3_writeDown h a0 p1 p2 p3 = some h1) : Ct l G M_X3_writeDown [.ref a0, .int p1, .ref p2, .int p3] h none h1 := by
  refine Ct_of (L := [some (.ref a0), some (.int p1), some (.ref p2), some (.int p3), none, none]) ok_X3_writeDown (by decide +kernel) rfl rfl rfl (ρ := g_wU) (F := f_X3_writeDown h a0 p1 p2 p3) ?_ e rfl
  unfold f_X3_writeDown
  refine X_iload_n rfl rfl rfl ?_
  refine X_aload_n rfl rfl rfl ?_
  refine X_getI rfl rfl (fun v2 => ?_)
  refine X_bicmp_lt rfl rfl (fun _ => ?_) (fun _ => ?_)
  · exact X_vret rfl rfl rfl rfl rfl rfl
  · refine X_aload_n rfl rfl rfl ?_
    refine X_iload_n rfl rfl rfl ?_
    refine X_callV_IR (M' := M_X3_firstPlaceOf) (nA := 1) (As := [.int p1]) (st := []) (b := a0) (ci := 3) rfl rfl (by decide +kernel) rfl rfl rfl rfl rfl rfl rfl rfl (fun _ e => ct_X3_firstPlaceOf e) (fun v11 => ?_)
    refine X_istore rfl rfl rfl rfl ?_
    refine X_iconst (v := 0) rfl rfl (by decide) ?_
    refine X_istore rfl rfl rfl rfl ?_
    exact X_sub (g_sub_s (g_sub_n (g_sub_s (g_sub_s (g_sub_s (g_sub_s g_sub_0)))))) (b_X3_writeDown_b19  _ _ _ _ _ _ _)
def f_X3_endTry (h : gH) (a0 : Nat) (p1 : Int32) (p2 : Int32) (p3 : Int32) : Option (Int32 × gH) :=
  (if p2 = 0 then
    (g_gA h a0 3 12).bind fun v26 =>
    (f_X7_valueAt h v26 p1).bind fun v30 =>
    (g_gA h a0 3 12).bind fun v38 =>
    (f_X7_setAt h v38 p1 (v30 + 1)).bind fun h44 =>
    (if (v30 + 1) < p3 then
      (g_gA h44 a0 3 11).bind fun v54 =>
      (f_X7_setAt h44 v54 p1 0).bind fun h59 =>
      some (0, h59)
    else
      (g_gA h44 a0 3 11).bind fun v65 =>
      (f_X7_setAt h44 v65 p1 3).bind fun h70 =>
      (g_gI h70 a0 3 8).bind fun v75 =>
      (g_put h70 a0 3 8 (.int (v75 - 1))).bind fun h80 =>
      some (1, h80))
  else
    (g_gA h a0 3 11).bind fun v5 =>
    (f_X7_setAt h v5 p1 2).bind fun h10 =>
    (g_gI h10 a0 3 8).bind fun v15 =>
    (g_put h10 a0 3 8 (.int (v15 - 1))).bind fun h20 =>
    some (0, h20))
set_option maxRecDepth 100000 in
theorem ct_X3_endTry {l : Launch} {G : gG} {h : gH} {a0 : Nat} {p1 : Int32} {p2 : Int32} {p3 : Int32} {r : Int32} {h1 : gH} (e : f_X3_endTry h a0 p1 p2 p3 = some (r, h1)) : Ct l G M_X3_endTry [.ref a0, .int p1, .int p2, .int p3] h (some (.int r)) h1 := by
  refine Ct_of (L := [some (.ref a0), some (.int p1), some (.int p2), some (.int p3), none]) ok_X3_endTry (by decide +kernel) rfl rfl rfl (ρ := g_wI) (F := f_X3_endTry h a0 p1 p2 p3) ?_ e rfl
  unfold f_X3_endTry
  refine X_iload_n rfl rfl rfl ?_
  refine X_bif_eq rfl rfl (fun _ => ?_) (fun _ => ?_)
  · refine X_aload_n rfl rfl rfl ?_
    refine X_getA rfl rfl (fun v26 => ?_)
    refine X_iload_n rfl rfl rfl ?_
    refine X_callSN_IR (M' := M_X7_valueAt) (nA := 2) (As := [.ref v26, .int p1]) (st := []) rfl rfl (by decide +kernel) rfl rfl rfl rfl rfl rfl rfl (fun _ e => ct_X7_valueAt e) (fun v30 => ?_)
    refine X_iconst (v := 1) rfl rfl (by decide) ?_
    refine X_iadd rfl rfl ?_
    refine X_istore rfl rfl rfl rfl ?_
    refine X_aload_n rfl rfl rfl ?_
    refine X_getA rfl rfl (fun v38 => ?_)
    refine X_iload_n rfl rfl rfl ?_
    refine X_iload rfl rfl rfl ?_
    refine X_callSN_UW (M' := M_X7_setAt) (nA := 3) (As := [.ref v38, .int p1, .int (v30 + 1)]) (st := []) rfl rfl (by decide +kernel) rfl rfl rfl rfl rfl rfl rfl (fun _ e => ct_X7_setAt e) (fun h44 => ?_)
    refine X_iload rfl rfl rfl ?_
    refine X_iload_n rfl rfl rfl ?_
    refine X_bicmp_ge rfl rfl (fun _ => ?_) (fun _ => ?_)
    · refine X_aload_n rfl rfl rfl ?_
      refine X_getA rfl rfl (fun v54 => ?_)
      refine X_iload_n rfl rfl rfl ?_
      refine X_iconst (v := 0) rfl rfl (by decide) ?_
      refine X_callSN_UW (M' := M_X7_setAt) (nA := 3) (As := [.ref v54, .int p1, .int 0]) (st := []) rfl rfl (by decide +kernel) rfl rfl rfl rfl rfl rfl rfl (fun _ e => ct_X7_setAt e) (fun h59 => ?_)
      refine X_iconst (v := 0) rfl rfl (by decide) ?_
      exact X_iret rfl rfl rfl rfl rfl rfl rfl
    · refine X_aload_n rfl rfl rfl ?_
      refine X_getA rfl rfl (fun v65 => ?_)
      refine X_iload_n rfl rfl rfl ?_
      refine X_iconst (v := 3) rfl rfl (by decide) ?_
      refine X_callSN_UW (M' := M_X7_setAt) (nA := 3) (As := [.ref v65, .int p1, .int 3]) (st := []) rfl rfl (by decide +kernel) rfl rfl rfl rfl rfl rfl rfl (fun _ e => ct_X7_setAt e) (fun h70 => ?_)
      refine X_aload_n rfl rfl rfl ?_
      refine X_dup rfl rfl rfl ?_
      refine X_getI rfl rfl (fun v75 => ?_)
      refine X_iconst (v := 1) rfl rfl (by decide) ?_
      refine X_isub rfl rfl ?_
      refine X_put rfl rfl rfl rfl rfl (fun h80 => ?_)
      refine X_iconst (v := 1) rfl rfl (by decide) ?_
      exact X_iret rfl rfl rfl rfl rfl rfl rfl
  · refine X_aload_n rfl rfl rfl ?_
    refine X_getA rfl rfl (fun v5 => ?_)
    refine X_iload_n rfl rfl rfl ?_
    refine X_iconst (v := 2) rfl rfl (by decide) ?_
    refine X_callSN_UW (M' := M_X7_setAt) (nA := 3) (As := [.ref v5, .int p1, .int 2]) (st := []) rfl rfl (by decide +kernel) rfl rfl rfl rfl rfl rfl rfl (fun _ e => ct_X7_setAt e) (fun h10 => ?_)
    refine X_aload_n rfl rfl rfl ?_
    refine X_dup rfl rfl rfl ?_
    refine X_getI rfl rfl (fun v15 => ?_)
    refine X_iconst (v := 1) rfl rfl (by decide) ?_
    refine X_isub rfl rfl ?_
    refine X_put rfl rfl rfl rfl rfl (fun h20 => ?_)
    refine X_iconst (v := 0) rfl rfl (by decide) ?_
    exact X_iret rfl rfl rfl rfl rfl rfl rfl
