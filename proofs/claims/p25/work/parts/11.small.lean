def f_X7_valueAt (h : gH) (p0 : Nat) (p1 : Int32) : Option (Int32) :=
  (if 0 ≤ p1 then
    (g_aln h p0).bind fun v6 =>
    (if p1 < v6 then
      (g_ald h p0 p1).bind fun v12 =>
      some v12
    else
      some 0)
  else
    some 0)
set_option maxRecDepth 100000 in
theorem ct_X7_valueAt {l : Launch} {G : gG} {h : gH} {p0 : Nat} {p1 : Int32} {r : Int32} (e : f_X7_valueAt h p0 p1 = some r) : Ct l G M_X7_valueAt [.ref p0, .int p1] h (some (.int r)) h := by
  refine Ct_of (L := [some (.ref p0), some (.int p1)]) ok_X7_valueAt (by decide +kernel) rfl rfl rfl (ρ := (g_rI h)) (F := f_X7_valueAt h p0 p1) ?_ e rfl
  unfold f_X7_valueAt
  refine X_iload_n rfl rfl rfl ?_
  refine X_bif_lt rfl rfl (fun _ => ?_) (fun _ => ?_)
  · refine X_iload_n rfl rfl rfl ?_
    refine X_aload_n rfl rfl rfl ?_
    refine X_aln rfl rfl (fun v6 => ?_)
    refine X_bicmp_ge rfl rfl (fun _ => ?_) (fun _ => ?_)
    · refine X_aload_n rfl rfl rfl ?_
      refine X_iload_n rfl rfl rfl ?_
      refine X_ald rfl rfl (fun v12 => ?_)
      refine X_goto rfl rfl ?_
      exact X_iret rfl rfl rfl rfl rfl rfl rfl
    · refine X_iconst (v := 0) rfl rfl (by decide) ?_
      exact X_iret rfl rfl rfl rfl rfl rfl rfl
  · refine X_iconst (v := 0) rfl rfl (by decide) ?_
    exact X_iret rfl rfl rfl rfl rfl rfl rfl
def f_X7_setAt (h : gH) (p0 : Nat) (p1 : Int32) (p2 : Int32) : Option gH :=
  (if 0 ≤ p1 then
    (g_aln h p0).bind fun v6 =>
    (if p1 < v6 then
      (g_ast h p0 p1 p2).bind fun h13 =>
      some h13
    else
      some h)
  else
    some h)
set_option maxRecDepth 100000 in
theorem ct_X7_setAt {l : Launch} {G : gG} {h : gH} {p0 : Nat} {p1 : Int32} {p2 : Int32} {h1 : gH} (e : f_X7_setAt h p0 p1 p2 = some h1) : Ct l G M_X7_setAt [.ref p0, .int p1, .int p2] h none h1 := by
  refine Ct_of (L := [some (.ref p0), some (.int p1), some (.int p2)]) ok_X7_setAt (by decide +kernel) rfl rfl rfl (ρ := g_wU) (F := f_X7_setAt h p0 p1 p2) ?_ e rfl
  unfold f_X7_setAt
  refine X_iload_n rfl rfl rfl ?_
  refine X_bif_lt rfl rfl (fun _ => ?_) (fun _ => ?_)
  · refine X_iload_n rfl rfl rfl ?_
    refine X_aload_n rfl rfl rfl ?_
    refine X_aln rfl rfl (fun v6 => ?_)
    refine X_bicmp_ge rfl rfl (fun _ => ?_) (fun _ => ?_)
    · refine X_aload_n rfl rfl rfl ?_
      refine X_iload_n rfl rfl rfl ?_
      refine X_iload_n rfl rfl rfl ?_
      refine X_ast rfl rfl (fun h13 => ?_)
      exact X_vret rfl rfl rfl rfl rfl rfl
    · exact X_vret rfl rfl rfl rfl rfl rfl
  · exact X_vret rfl rfl rfl rfl rfl rfl
def f_X7_isWithin (p0 : Int32) (p1 : Int32) (p2 : Int32) : Int32 :=
  (if p1 ≤ p0 then
    (if p0 ≤ p2 then
      1
    else
      0)
  else
    0)
set_option maxRecDepth 100000 in
theorem ct_X7_isWithin {l : Launch} {G : gG} {h : gH} {p0 : Int32} {p1 : Int32} {p2 : Int32} : Ct l G M_X7_isWithin [.int p0, .int p1, .int p2] h (some (.int (f_X7_isWithin p0 p1 p2))) h := by
  refine Ct_of (L := [some (.int p0), some (.int p1), some (.int p2)]) ok_X7_isWithin (by decide +kernel) rfl rfl rfl (ρ := (g_rI h)) (F := some (f_X7_isWithin p0 p1 p2)) ?_ rfl rfl
  unfold f_X7_isWithin
  refine X_iload_n rfl rfl rfl ?_
  refine X_iload_n rfl rfl rfl ?_
  refine X_bPicmp_lt rfl rfl (fun _ => ?_) (fun _ => ?_)
  · refine X_iload_n rfl rfl rfl ?_
    refine X_iload_n rfl rfl rfl ?_
    refine X_bPicmp_gt rfl rfl (fun _ => ?_) (fun _ => ?_)
    · refine X_iconst (v := 1) rfl rfl (by decide) ?_
      refine X_goto rfl rfl ?_
      exact X_iret rfl rfl rfl rfl rfl rfl rfl
    · refine X_iconst (v := 0) rfl rfl (by decide) ?_
      exact X_iret rfl rfl rfl rfl rfl rfl rfl
  · refine X_iconst (v := 0) rfl rfl (by decide) ?_
    exact X_iret rfl rfl rfl rfl rfl rfl rfl
def f_J9_floorMod_7cf53 (h : gH) (p0 : Int32) (p1 : Int32) : Option (Int32) :=
  if p1 = 0 then none else
  (if (p0 ^^^ p1) < 0 then
    (if (g_rem p0 p1) = 0 then
      some (g_rem p0 p1)
    else
      some ((g_rem p0 p1) + p1))
  else
    some (g_rem p0 p1))
set_option maxRecDepth 100000 in
theorem ct_J9_floorMod_7cf53 {l : Launch} {G : gG} {h : gH} {p0 : Int32} {p1 : Int32} {r : Int32} (e : f_J9_floorMod_7cf53 h p0 p1 = some r) : Ct l G M_J9_floorMod_7cf53 [.int p0, .int p1] h (some (.int r)) h := by
  refine Ct_of (L := [some (.int p0), some (.int p1), none]) ok_J9_floorMod_7cf53 (by decide +kernel) rfl rfl rfl (ρ := (g_rI h)) (F := f_J9_floorMod_7cf53 h p0 p1) ?_ e rfl
  unfold f_J9_floorMod_7cf53
  refine X_iload_n rfl rfl rfl ?_
  refine X_iload_n rfl rfl rfl ?_
  refine X_if (fun _ => X_none) (fun hz => ?_)
  refine X_irem (v := g_rem p0 p1) rfl rfl rfl hz ?_
  refine X_istore_n rfl rfl rfl rfl ?_
  refine X_iload_n rfl rfl rfl ?_
  refine X_iload_n rfl rfl rfl ?_
  refine X_ixor rfl rfl ?_
  refine X_bif_ge rfl rfl (fun _ => ?_) (fun _ => ?_)
  · refine X_iload_n rfl rfl rfl ?_
    refine X_bif_eq rfl rfl (fun _ => ?_) (fun _ => ?_)
    · refine X_iload_n rfl rfl rfl ?_
      exact X_iret rfl rfl rfl rfl rfl rfl rfl
    · refine X_iload_n rfl rfl rfl ?_
      refine X_iload_n rfl rfl rfl ?_
      refine X_iadd rfl rfl ?_
      exact X_iret rfl rfl rfl rfl rfl rfl rfl
  · refine X_iload_n rfl rfl rfl ?_
    exact X_iret rfl rfl rfl rfl rfl rfl rfl
def f_X7_copyRow (h : gH) (p0 : Nat) (p1 : Nat) : Option gH :=
  (g_aln h p0).bind fun v5 =>
  (g_aln h p1).bind fun v7 =>
  (g_cpy h p0 0 p1 0 (g_min v5 v7)).bind fun h11 =>
  some h11
set_option maxRecDepth 100000 in
theorem ct_X7_copyRow {l : Launch} {G : gG} {h : gH} {p0 : Nat} {p1 : Nat} {h1 : gH} (e : f_X7_copyRow h p0 p1 = some h1) : Ct l G M_X7_copyRow [.ref p0, .ref p1] h none h1 := by
  refine Ct_of (L := [some (.ref p0), some (.ref p1)]) ok_X7_copyRow (by decide +kernel) rfl rfl rfl (ρ := g_wU) (F := f_X7_copyRow h p0 p1) ?_ e rfl
  unfold f_X7_copyRow
  refine X_aload_n rfl rfl rfl ?_
  refine X_iconst (v := 0) rfl rfl (by decide) ?_
  refine X_aload_n rfl rfl rfl ?_
  refine X_iconst (v := 0) rfl rfl (by decide) ?_
  refine X_aload_n rfl rfl rfl ?_
  refine X_aln rfl rfl (fun v5 => ?_)
  refine X_aload_n rfl rfl rfl ?_
  refine X_aln rfl rfl (fun v7 => ?_)
  refine X_mmin rfl rfl (by decide +kernel) (by decide +kernel) (by decide +kernel) (by decide +kernel) rfl rfl rfl rfl ?_
  refine X_copy rfl rfl (by decide +kernel) (by decide +kernel) (by decide +kernel) (by decide +kernel) rfl (by decide) (fun h11 => ?_)
  exact X_vret rfl rfl rfl rfl rfl rfl
def f_X4_copyFrom (h : gH) (a0 : Nat) (p1 : Nat) : Option gH :=
  (g_gI h p1 4 0).bind fun v2 =>
  (g_put h a0 4 0 (.int v2)).bind fun h5 =>
  (g_gA h5 p1 4 1).bind fun v9 =>
  (g_gA h5 a0 4 1).bind fun v13 =>
  (f_X7_copyRow h5 v9 v13).bind fun h16 =>
  (g_gA h16 p1 4 2).bind fun v20 =>
  (g_gA h16 a0 4 2).bind fun v24 =>
  (f_X7_copyRow h16 v20 v24).bind fun h27 =>
  (g_gA h27 p1 4 3).bind fun v31 =>
  (g_gA h27 a0 4 3).bind fun v35 =>
  (f_X7_copyRow h27 v31 v35).bind fun h38 =>
  some h38
set_option maxRecDepth 100000 in
theorem ct_X4_copyFrom {l : Launch} {G : gG} {h : gH} {a0 : Nat} {p1 : Nat} {h1 : gH} (e : f_X4_copyFrom h a0 p1 = some h1) : Ct l G M_X4_copyFrom [.ref a0, .ref p1] h none h1 := by
  refine Ct_of (L := [some (.ref a0), some (.ref p1)]) ok_X4_copyFrom (by decide +kernel) rfl rfl rfl (ρ := g_wU) (F := f_X4_copyFrom h a0 p1) ?_ e rfl
  unfold f_X4_copyFrom
  refine X_aload_n rfl rfl rfl ?_
  refine X_aload_n rfl rfl rfl ?_
  refine X_getI rfl rfl (fun v2 => ?_)
  refine X_put rfl rfl rfl rfl rfl (fun h5 => ?_)
  refine X_aload_n rfl rfl rfl ?_
  refine X_getA rfl rfl (fun v9 => ?_)
  refine X_aload_n rfl rfl rfl ?_
  refine X_getA rfl rfl (fun v13 => ?_)
  refine X_callSN_UW (M' := M_X7_copyRow) (nA := 2) (As := [.ref v9, .ref v13]) (st := []) rfl rfl (by decide +kernel) rfl rfl rfl rfl rfl rfl rfl (fun _ e => ct_X7_copyRow e) (fun h16 => ?_)
  refine X_aload_n rfl rfl rfl ?_
  refine X_getA rfl rfl (fun v20 => ?_)
  refine X_aload_n rfl rfl rfl ?_
  refine X_getA rfl rfl (fun v24 => ?_)
  refine X_callSN_UW (M' := M_X7_copyRow) (nA := 2) (As := [.ref v20, .ref v24]) (st := []) rfl rfl (by decide +kernel) rfl rfl rfl rfl rfl rfl rfl (fun _ e => ct_X7_copyRow e) (fun h27 => ?_)
  refine X_aload_n rfl rfl rfl ?_
  refine X_getA rfl rfl (fun v31 => ?_)
  refine X_aload_n rfl rfl rfl ?_
  refine X_getA rfl rfl (fun v35 => ?_)
  refine X_callSN_UW (M' := M_X7_copyRow) (nA := 2) (As := [.ref v31, .ref v35]) (st := []) rfl rfl (by decide +kernel) rfl rfl rfl rfl rfl rfl rfl (fun _ e => ct_X7_copyRow e) (fun h38 => ?_)
  exact X_vret rfl rfl rfl rfl rfl rfl
def f_X4_isFull (h : gH) (a0 : Nat) : Option (Int32) :=
  (g_gI h a0 4 0).bind fun v1 =>
  (if 12 ≤ v1 then
    some 1
  else
    some 0)
set_option maxRecDepth 100000 in
theorem ct_X4_isFull {l : Launch} {G : gG} {h : gH} {a0 : Nat} {r : Int32} (e : f_X4_isFull h a0 = some r) : Ct l G M_X4_isFull [.ref a0] h (some (.int r)) h := by
  refine Ct_of (L := [some (.ref a0)]) ok_X4_isFull (by decide +kernel) rfl rfl rfl (ρ := (g_rI h)) (F := f_X4_isFull h a0) ?_ e rfl
  unfold f_X4_isFull
  refine X_aload_n rfl rfl rfl ?_
  refine X_getI rfl rfl (fun v1 => ?_)
  refine X_bipush (v := 12) rfl rfl (by decide) ?_
  refine X_bicmp_lt rfl rfl (fun _ => ?_) (fun _ => ?_)
  · refine X_iconst (v := 1) rfl rfl (by decide) ?_
    refine X_goto rfl rfl ?_
    exact X_iret rfl rfl rfl rfl rfl rfl rfl
  · refine X_iconst (v := 0) rfl rfl (by decide) ?_
    exact X_iret rfl rfl rfl rfl rfl rfl rfl
def f_X4_add (h : gH) (a0 : Nat) (p1 : Int32) (p2 : Int32) (p3 : Int32) : Option gH :=
  bif g_is h a0 4 then
  (f_X4_isFull h a0).bind fun v1 =>
  (if v1 = 0 then
    (g_gA h a0 4 1).bind fun v9 =>
    (g_gI h a0 4 0).bind fun v13 =>
    (f_X7_setAt h v9 v13 p1).bind fun h17 =>
    (g_gA h17 a0 4 2).bind fun v21 =>
    (g_gI h17 a0 4 0).bind fun v25 =>
    (f_X7_setAt h17 v21 v25 p2).bind fun h29 =>
    (g_gA h29 a0 4 3).bind fun v33 =>
    (g_gI h29 a0 4 0).bind fun v37 =>
    (f_X7_setAt h29 v33 v37 p3).bind fun h41 =>
    (g_gI h41 a0 4 0).bind fun v46 =>
    (g_put h41 a0 4 0 (.int (v46 + 1))).bind fun h51 =>
    some h51
  else
    some h)
  else none
set_option maxRecDepth 100000 in
theorem ct_X4_add {l : Launch} {G : gG} {h : gH} {a0 : Nat} {p1 : Int32} {p2 : Int32} {p3 : Int32} {h1 : gH} (e : f_X4_add h a0 p1 p2 p3 = some h1) : Ct l G M_X4_add [.ref a0, .int p1, .int p2, .int p3] h none h1 := by
  refine Ct_of (L := [some (.ref a0), some (.int p1), some (.int p2), some (.int p3)]) ok_X4_add (by decide +kernel) rfl rfl rfl (ρ := g_wU) (F := f_X4_add h a0 p1 p2 p3) ?_ e rfl
  unfold f_X4_add
  refine X_aload_n rfl rfl rfl ?_
  refine X_callV_IR (M' := M_X4_isFull) (nA := 0) (As := []) (st := []) (b := a0) (ci := 4) rfl rfl (by decide +kernel) rfl rfl rfl rfl rfl rfl rfl rfl (fun _ e => ct_X4_isFull e) (fun v1 => ?_)
  refine X_bif_eq rfl rfl (fun _ => ?_) (fun _ => ?_)
  · refine X_aload_n rfl rfl rfl ?_
    refine X_getA rfl rfl (fun v9 => ?_)
    refine X_aload_n rfl rfl rfl ?_
    refine X_getI rfl rfl (fun v13 => ?_)
    refine X_iload_n rfl rfl rfl ?_
    refine X_callSN_UW (M' := M_X7_setAt) (nA := 3) (As := [.ref v9, .int v13, .int p1]) (st := []) rfl rfl (by decide +kernel) rfl rfl rfl rfl rfl rfl rfl (fun _ e => ct_X7_setAt e) (fun h17 => ?_)
    refine X_aload_n rfl rfl rfl ?_
    refine X_getA rfl rfl (fun v21 => ?_)
    refine X_aload_n rfl rfl rfl ?_
    refine X_getI rfl rfl (fun v25 => ?_)
    refine X_iload_n rfl rfl rfl ?_
    refine X_callSN_UW (M' := M_X7_setAt) (nA := 3) (As := [.ref v21, .int v25, .int p2]) (st := []) rfl rfl (by decide +kernel) rfl rfl rfl rfl rfl rfl rfl (fun _ e => ct_X7_setAt e) (fun h29 => ?_)
    refine X_aload_n rfl rfl rfl ?_
    refine X_getA rfl rfl (fun v33 => ?_)
    refine X_aload_n rfl rfl rfl ?_
    refine X_getI rfl rfl (fun v37 => ?_)
    refine X_iload_n rfl rfl rfl ?_
    refine X_callSN_UW (M' := M_X7_setAt) (nA := 3) (As := [.ref v33, .int v37, .int p3]) (st := []) rfl rfl (by decide +kernel) rfl rfl rfl rfl rfl rfl rfl (fun _ e => ct_X7_setAt e) (fun h41 => ?_)
    refine X_aload_n rfl rfl rfl ?_
    refine X_dup rfl rfl rfl ?_
    refine X_getI rfl rfl (fun v46 => ?_)
    refine X_iconst (v := 1) rfl rfl (by decide) ?_
    refine X_iadd rfl rfl ?_
    refine X_put rfl rfl rfl rfl rfl (fun h51 => ?_)
    exact X_vret rfl rfl rfl rfl rfl rfl
  · exact X_vret rfl rfl rfl rfl rfl rfl
def f_X4_levelAt_b44 (h : gH) (K7 : Nat → Int32 → Int32 → Option (Int32)) (l0 : Nat) (l1 : Int32) (l2 : Int32) : Option (Int32) :=
  K7 l0 l1 (l2 + (-1))
def f_X4_levelAt_b7 (h : gH) : Nat → Nat → Int32 → Int32 → Option (Int32)
  | 0, _, _, _ => none
  | n + 1, l0, l1, l2 =>
    (if 0 ≤ l2 then
      (g_gA h l0 4 1).bind fun v13 =>
      (f_X7_valueAt h v13 l2).bind fun v17 =>
      (if v17 ≤ l1 then
        (g_gA h l0 4 2).bind fun v25 =>
        (f_X7_valueAt h v25 l2).bind fun v29 =>
        (if l1 ≤ v29 then
          (g_gA h l0 4 3).bind fun v36 =>
          (f_X7_valueAt h v36 l2).bind fun v40 =>
          some v40
        else
          f_X4_levelAt_b44 h (f_X4_levelAt_b7 h n) l0 l1 l2)
      else
        f_X4_levelAt_b44 h (f_X4_levelAt_b7 h n) l0 l1 l2)
    else
      some 0)
def f_X4_levelAt (h : gH) (a0 : Nat) (p1 : Int32) : Option (Int32) :=
  (g_gI h a0 4 0).bind fun v1 =>
  f_X4_levelAt_b7 h g_N a0 p1 (v1 - 1)
set_option maxRecDepth 100000 in
theorem b_X4_levelAt_b44 {l : Launch} {G : gG} {h : gH} {K7 : Nat → Int32 → Int32 → Option (Int32)} (hK7 : ∀ (l0 : Nat) (l1 : Int32) (l2 : Int32), GX l G M_X4_levelAt (g_phi G (g_rI h) (m_R M_X4_levelAt).cells (m_R M_X4_levelAt).slots) 0 0 7 [some (.ref l0), some (.int l1), some (.int l2)] [] h (K7 l0 l1 l2)) (l0 : Nat) (l1 : Int32) (l2 : Int32) : GX l G M_X4_levelAt (g_phi G (g_rI h) (m_R M_X4_levelAt).cells (m_R M_X4_levelAt).slots) 0 0 44 [some (.ref l0), some (.int l1), some (.int l2)] [] h (f_X4_levelAt_b44 h K7 l0 l1 l2) := by
  unfold f_X4_levelAt_b44
  refine X_iinc (v := l2 + (-1)) rfl rfl rfl (congrArg (fun z => l2 + z) (by decide : Int32.ofInt (-1) = (-1))) rfl ?_
  refine X_goto rfl rfl ?_
  exact X_sub (g_sub_s (g_sub_s (g_sub_s g_sub_0))) (hK7 _ _ _)
set_option maxRecDepth 100000 in
theorem b_X4_levelAt_b7 {l : Launch} {G : gG} {h : gH} : ∀ (n : Nat) (l0 : Nat) (l1 : Int32) (l2 : Int32), GX l G M_X4_levelAt (g_phi G (g_rI h) (m_R M_X4_levelAt).cells (m_R M_X4_levelAt).slots) 0 0 7 [some (.ref l0), some (.int l1), some (.int l2)] [] h (f_X4_levelAt_b7 h n l0 l1 l2) := by
  intro n
  induction n with
  | zero => intros; exact X_none
  | succ n ih =>
    intro l0 l1 l2
    rw [f_X4_levelAt_b7]
    refine X_iload_n rfl rfl rfl ?_
    refine X_bif_lt rfl rfl (fun _ => ?_) (fun _ => ?_)
    · refine X_iload_n rfl rfl rfl ?_
      refine X_aload_n rfl rfl rfl ?_
      refine X_getA rfl rfl (fun v13 => ?_)
      refine X_iload_n rfl rfl rfl ?_
      refine X_callSN_IR (M' := M_X7_valueAt) (nA := 2) (As := [.ref v13, .int l2]) (st := [.int l1]) rfl rfl (by decide +kernel) rfl rfl rfl rfl rfl rfl rfl (fun _ e => ct_X7_valueAt e) (fun v17 => ?_)
      refine X_bicmp_lt rfl rfl (fun _ => ?_) (fun _ => ?_)
      · refine X_iload_n rfl rfl rfl ?_
        refine X_aload_n rfl rfl rfl ?_
        refine X_getA rfl rfl (fun v25 => ?_)
        refine X_iload_n rfl rfl rfl ?_
        refine X_callSN_IR (M' := M_X7_valueAt) (nA := 2) (As := [.ref v25, .int l2]) (st := [.int l1]) rfl rfl (by decide +kernel) rfl rfl rfl rfl rfl rfl rfl (fun _ e => ct_X7_valueAt e) (fun v29 => ?_)
        refine X_bicmp_gt rfl rfl (fun _ => ?_) (fun _ => ?_)
        · refine X_aload_n rfl rfl rfl ?_
          refine X_getA rfl rfl (fun v36 => ?_)
          refine X_iload_n rfl rfl rfl ?_
          refine X_callSN_IR (M' := M_X7_valueAt) (nA := 2) (As := [.ref v36, .int l2]) (st := []) rfl rfl (by decide +kernel) rfl rfl rfl rfl rfl rfl rfl (fun _ e => ct_X7_valueAt e) (fun v40 => ?_)
          exact X_iret rfl rfl rfl rfl rfl rfl rfl
        · exact X_sub (g_sub_s (g_sub_s (g_sub_s g_sub_0))) (b_X4_levelAt_b44 ih _ _ _)
      · exact X_sub (g_sub_s (g_sub_s (g_sub_s g_sub_0))) (b_X4_levelAt_b44 ih _ _ _)
    · refine X_iconst (v := 0) rfl rfl (by decide) ?_
      exact X_iret rfl rfl rfl rfl rfl rfl rfl
set_option maxRecDepth 100000 in
theorem ct_X4_levelAt {l : Launch} {G : gG} {h : gH} {a0 : Nat} {p1 : Int32} {r : Int32} (e : f_X4_levelAt h a0 p1 = some r) : Ct l G M_X4_levelAt [.ref a0, .int p1] h (some (.int r)) h := by
  refine Ct_of (L := [some (.ref a0), some (.int p1), none]) ok_X4_levelAt (by decide +kernel) rfl rfl rfl (ρ := (g_rI h)) (F := f_X4_levelAt h a0 p1) ?_ e rfl
  unfold f_X4_levelAt
  refine X_aload_n rfl rfl rfl ?_
  refine X_getI rfl rfl (fun v1 => ?_)
  refine X_iconst (v := 1) rfl rfl (by decide) ?_
  refine X_isub rfl rfl ?_
  refine X_istore_n rfl rfl rfl rfl ?_
  exact X_sub (g_sub_s (g_sub_s (g_sub_s g_sub_0))) (b_X4_levelAt_b7  _ _ _ _)
def f_X2_copyFrom (h : gH) (a0 : Nat) (p1 : Nat) : Option gH :=
  (g_gI h p1 2 0).bind fun v2 =>
  (g_put h a0 2 0 (.int v2)).bind fun h5 =>
  (g_gA h5 p1 2 1).bind fun v9 =>
  (g_gA h5 a0 2 1).bind fun v13 =>
  (f_X7_copyRow h5 v9 v13).bind fun h16 =>
  (g_gA h16 p1 2 2).bind fun v20 =>
  (g_gA h16 a0 2 2).bind fun v24 =>
  (f_X7_copyRow h16 v20 v24).bind fun h27 =>
  some h27
set_option maxRecDepth 100000 in
theorem ct_X2_copyFrom {l : Launch} {G : gG} {h : gH} {a0 : Nat} {p1 : Nat} {h1 : gH} (e : f_X2_copyFrom h a0 p1 = some h1) : Ct l G M_X2_copyFrom [.ref a0, .ref p1] h none h1 := by
  refine Ct_of (L := [some (.ref a0), some (.ref p1)]) ok_X2_copyFrom (by decide +kernel) rfl rfl rfl (ρ := g_wU) (F := f_X2_copyFrom h a0 p1) ?_ e rfl
  unfold f_X2_copyFrom
  refine X_aload_n rfl rfl rfl ?_
  refine X_aload_n rfl rfl rfl ?_
  refine X_getI rfl rfl (fun v2 => ?_)
  refine X_put rfl rfl rfl rfl rfl (fun h5 => ?_)
  refine X_aload_n rfl rfl rfl ?_
  refine X_getA rfl rfl (fun v9 => ?_)
  refine X_aload_n rfl rfl rfl ?_
  refine X_getA rfl rfl (fun v13 => ?_)
  refine X_callSN_UW (M' := M_X7_copyRow) (nA := 2) (As := [.ref v9, .ref v13]) (st := []) rfl rfl (by decide +kernel) rfl rfl rfl rfl rfl rfl rfl (fun _ e => ct_X7_copyRow e) (fun h16 => ?_)
  refine X_aload_n rfl rfl rfl ?_
  refine X_getA rfl rfl (fun v20 => ?_)
  refine X_aload_n rfl rfl rfl ?_
  refine X_getA rfl rfl (fun v24 => ?_)
  refine X_callSN_UW (M' := M_X7_copyRow) (nA := 2) (As := [.ref v20, .ref v24]) (st := []) rfl rfl (by decide +kernel) rfl rfl rfl rfl rfl rfl rfl (fun _ e => ct_X7_copyRow e) (fun h27 => ?_)
  exact X_vret rfl rfl rfl rfl rfl rfl
def f_X2_isFull (h : gH) (a0 : Nat) : Option (Int32) :=
  (g_gI h a0 2 0).bind fun v1 =>
  (if 8 ≤ v1 then
    some 1
  else
    some 0)
set_option maxRecDepth 100000 in
theorem ct_X2_isFull {l : Launch} {G : gG} {h : gH} {a0 : Nat} {r : Int32} (e : f_X2_isFull h a0 = some r) : Ct l G M_X2_isFull [.ref a0] h (some (.int r)) h := by
  refine Ct_of (L := [some (.ref a0)]) ok_X2_isFull (by decide +kernel) rfl rfl rfl (ρ := (g_rI h)) (F := f_X2_isFull h a0) ?_ e rfl
  unfold f_X2_isFull
  refine X_aload_n rfl rfl rfl ?_
  refine X_getI rfl rfl (fun v1 => ?_)
  refine X_bipush (v := 8) rfl rfl (by decide) ?_
  refine X_bicmp_lt rfl rfl (fun _ => ?_) (fun _ => ?_)
  · refine X_iconst (v := 1) rfl rfl (by decide) ?_
    refine X_goto rfl rfl ?_
    exact X_iret rfl rfl rfl rfl rfl rfl rfl
  · refine X_iconst (v := 0) rfl rfl (by decide) ?_
    exact X_iret rfl rfl rfl rfl rfl rfl rfl
def f_X2_placeOf_b2 (h : gH) : Nat → Nat → Int32 → Int32 → Option (Int32)
  | 0, _, _, _ => none
  | n + 1, l0, l1, l2 =>
    (g_gI h l0 2 0).bind fun v4 =>
    (if l2 < v4 then
      (g_gA h l0 2 1).bind fun v11 =>
      (f_X7_valueAt h v11 l2).bind fun v15 =>
      (if v15 = l1 then
        some l2
      else
        f_X2_placeOf_b2 h n l0 l1 (l2 + 1))
    else
      (g_gI h l0 2 0).bind fun v31 =>
      some v31)
def f_X2_placeOf (h : gH) (a0 : Nat) (p1 : Int32) : Option (Int32) :=
  f_X2_placeOf_b2 h g_N a0 p1 0
set_option maxRecDepth 100000 in
theorem b_X2_placeOf_b2 {l : Launch} {G : gG} {h : gH} : ∀ (n : Nat) (l0 : Nat) (l1 : Int32) (l2 : Int32), GX l G M_X2_placeOf (g_phi G (g_rI h) (m_R M_X2_placeOf).cells (m_R M_X2_placeOf).slots) 0 0 2 [some (.ref l0), some (.int l1), some (.int l2)] [] h (f_X2_placeOf_b2 h n l0 l1 l2) := by
  intro n
  induction n with
  | zero => intros; exact X_none
  | succ n ih =>
    intro l0 l1 l2
    rw [f_X2_placeOf_b2]
    refine X_iload_n rfl rfl rfl ?_
    refine X_aload_n rfl rfl rfl ?_
    refine X_getI rfl rfl (fun v4 => ?_)
    refine X_bicmp_ge rfl rfl (fun _ => ?_) (fun _ => ?_)
    · refine X_aload_n rfl rfl rfl ?_
      refine X_getA rfl rfl (fun v11 => ?_)
      refine X_iload_n rfl rfl rfl ?_
      refine X_callSN_IR (M' := M_X7_valueAt) (nA := 2) (As := [.ref v11, .int l2]) (st := []) rfl rfl (by decide +kernel) rfl rfl rfl rfl rfl rfl rfl (fun _ e => ct_X7_valueAt e) (fun v15 => ?_)
      refine X_iload_n rfl rfl rfl ?_
      refine X_bicmp_ne rfl rfl (fun _ => ?_) (fun _ => ?_)
      · refine X_iload_n rfl rfl rfl ?_
        exact X_iret rfl rfl rfl rfl rfl rfl rfl
      · refine X_iinc (v := l2 + 1) rfl rfl rfl (congrArg (fun z => l2 + z) (by decide : Int32.ofInt 1 = 1)) rfl ?_
        refine X_goto rfl rfl ?_
        exact X_sub (g_sub_s (g_sub_s (g_sub_s g_sub_0))) (ih _ _ _)
    · refine X_aload_n rfl rfl rfl ?_
      refine X_getI rfl rfl (fun v31 => ?_)
      exact X_iret rfl rfl rfl rfl rfl rfl rfl
set_option maxRecDepth 100000 in
theorem ct_X2_placeOf {l : Launch} {G : gG} {h : gH} {a0 : Nat} {p1 : Int32} {r : Int32} (e : f_X2_placeOf h a0 p1 = some r) : Ct l G M_X2_placeOf [.ref a0, .int p1] h (some (.int r)) h := by
  refine Ct_of (L := [some (.ref a0), some (.int p1), none]) ok_X2_placeOf (by decide +kernel) rfl rfl rfl (ρ := (g_rI h)) (F := f_X2_placeOf h a0 p1) ?_ e rfl
  unfold f_X2_placeOf
  refine X_iconst (v := 0) rfl rfl (by decide) ?_
  refine X_istore_n rfl rfl rfl rfl ?_
  exact X_sub (g_sub_s (g_sub_s (g_sub_s g_sub_0))) (b_X2_placeOf_b2  _ _ _ _)
def f_X2_hasOneAt (h : gH) (a0 : Nat) (p1 : Int32) : Option (Int32) :=
  bif g_is h a0 2 then
  (f_X2_placeOf h a0 p1).bind fun v2 =>
  (g_gI h a0 2 0).bind fun v6 =>
  (if v2 < v6 then
    some 1
  else
    some 0)
  else none
set_option maxRecDepth 100000 in
theorem ct_X2_hasOneAt {l : Launch} {G : gG} {h : gH} {a0 : Nat} {p1 : Int32} {r : Int32} (e : f_X2_hasOneAt h a0 p1 = some r) : Ct l G M_X2_hasOneAt [.ref a0, .int p1] h (some (.int r)) h := by
  refine Ct_of (L := [some (.ref a0), some (.int p1)]) ok_X2_hasOneAt (by decide +kernel) rfl rfl rfl (ρ := (g_rI h)) (F := f_X2_hasOneAt h a0 p1) ?_ e rfl
  unfold f_X2_hasOneAt
  refine X_aload_n rfl rfl rfl ?_
  refine X_iload_n rfl rfl rfl ?_
  refine X_callV_IR (M' := M_X2_placeOf) (nA := 1) (As := [.int p1]) (st := []) (b := a0) (ci := 2) rfl rfl (by decide +kernel) rfl rfl rfl rfl rfl rfl rfl rfl (fun _ e => ct_X2_placeOf e) (fun v2 => ?_)
  refine X_aload_n rfl rfl rfl ?_
  refine X_getI rfl rfl (fun v6 => ?_)
  refine X_bicmp_ge rfl rfl (fun _ => ?_) (fun _ => ?_)
  · refine X_iconst (v := 1) rfl rfl (by decide) ?_
    refine X_goto rfl rfl ?_
    exact X_iret rfl rfl rfl rfl rfl rfl rfl
  · refine X_iconst (v := 0) rfl rfl (by decide) ?_
    exact X_iret rfl rfl rfl rfl rfl rfl rfl
def f_X2_come (h : gH) (a0 : Nat) (p1 : Int32) (p2 : Int32) : Option gH :=
  bif g_is h a0 2 then
  (f_X2_placeOf h a0 p1).bind fun v2 =>
  (if 8 ≤ v2 then
    some h
  else
    (g_gA h a0 2 1).bind fun v14 =>
    (f_X7_setAt h v14 v2 p1).bind fun h19 =>
    (g_gA h19 a0 2 2).bind fun v23 =>
    (f_X7_setAt h19 v23 v2 p2).bind fun h28 =>
    (g_gI h28 a0 2 0).bind fun v33 =>
    (g_put h28 a0 2 0 (.int (g_max v33 (v2 + 1)))).bind fun h42 =>
    some h42)
  else none
set_option maxRecDepth 100000 in
theorem ct_X2_come {l : Launch} {G : gG} {h : gH} {a0 : Nat} {p1 : Int32} {p2 : Int32} {h1 : gH} (e : f_X2_come h a0 p1 p2 = some h1) : Ct l G M_X2_come [.ref a0, .int p1, .int p2] h none h1 := by
  refine Ct_of (L := [some (.ref a0), some (.int p1), some (.int p2), none]) ok_X2_come (by decide +kernel) rfl rfl rfl (ρ := g_wU) (F := f_X2_come h a0 p1 p2) ?_ e rfl
  unfold f_X2_come
  refine X_aload_n rfl rfl rfl ?_
  refine X_iload_n rfl rfl rfl ?_
  refine X_callV_IR (M' := M_X2_placeOf) (nA := 1) (As := [.int p1]) (st := []) (b := a0) (ci := 2) rfl rfl (by decide +kernel) rfl rfl rfl rfl rfl rfl rfl rfl (fun _ e => ct_X2_placeOf e) (fun v2 => ?_)
  refine X_istore_n rfl rfl rfl rfl ?_
  refine X_iload_n rfl rfl rfl ?_
  refine X_bipush (v := 8) rfl rfl (by decide) ?_
  refine X_bicmp_lt rfl rfl (fun _ => ?_) (fun _ => ?_)
  · exact X_vret rfl rfl rfl rfl rfl rfl
  · refine X_aload_n rfl rfl rfl ?_
    refine X_getA rfl rfl (fun v14 => ?_)
    refine X_iload_n rfl rfl rfl ?_
    refine X_iload_n rfl rfl rfl ?_
    refine X_callSN_UW (M' := M_X7_setAt) (nA := 3) (As := [.ref v14, .int v2, .int p1]) (st := []) rfl rfl (by decide +kernel) rfl rfl rfl rfl rfl rfl rfl (fun _ e => ct_X7_setAt e) (fun h19 => ?_)
    refine X_aload_n rfl rfl rfl ?_
    refine X_getA rfl rfl (fun v23 => ?_)
    refine X_iload_n rfl rfl rfl ?_
    refine X_iload_n rfl rfl rfl ?_
    refine X_callSN_UW (M' := M_X7_setAt) (nA := 3) (As := [.ref v23, .int v2, .int p2]) (st := []) rfl rfl (by decide +kernel) rfl rfl rfl rfl rfl rfl rfl (fun _ e => ct_X7_setAt e) (fun h28 => ?_)
    refine X_aload_n rfl rfl rfl ?_
    refine X_aload_n rfl rfl rfl ?_
    refine X_getI rfl rfl (fun v33 => ?_)
    refine X_iload_n rfl rfl rfl ?_
    refine X_iconst (v := 1) rfl rfl (by decide) ?_
    refine X_iadd rfl rfl ?_
    refine X_mmax rfl rfl (by decide +kernel) (by decide +kernel) (by decide +kernel) (by decide +kernel) rfl rfl rfl rfl ?_
    refine X_put rfl rfl rfl rfl rfl (fun h42 => ?_)
    exact X_vret rfl rfl rfl rfl rfl rfl
def f_X2_keyAt_b52 (h : gH) (K7 : Nat → Int32 → Int32 → Int32 → Int32 → Option (Int32)) (l0 : Nat) (l1 : Int32) (l2 : Int32) (l3 : Int32) (l4 : Int32) : Option (Int32) :=
  K7 l0 l1 l2 l3 (l4 + 1)
def f_X2_keyAt_b7 (h : gH) : Nat → Nat → Int32 → Int32 → Int32 → Int32 → Option (Int32)
  | 0, _, _, _, _, _ => none
  | n + 1, l0, l1, l2, l3, l4 =>
    (g_gI h l0 2 0).bind fun v10 =>
    (if l4 < v10 then
      (g_gA h l0 2 1).bind fun v17 =>
      (f_X7_valueAt h v17 l4).bind fun v22 =>
      (if v22 ≤ l1 then
        (if l2 < v22 then
          (g_gA h l0 2 2).bind fun v43 =>
          (f_X7_valueAt h v43 l4).bind fun v48 =>
          f_X2_keyAt_b52 h (f_X2_keyAt_b7 h n) l0 l1 v22 v48 l4
        else
          f_X2_keyAt_b52 h (f_X2_keyAt_b7 h n) l0 l1 l2 l3 l4)
      else
        f_X2_keyAt_b52 h (f_X2_keyAt_b7 h n) l0 l1 l2 l3 l4)
    else
      some l3)
def f_X2_keyAt (h : gH) (a0 : Nat) (p1 : Int32) : Option (Int32) :=
  f_X2_keyAt_b7 h g_N a0 p1 (-1) 0 0
set_option maxRecDepth 100000 in
theorem b_X2_keyAt_b52 {l : Launch} {G : gG} {h : gH} {K7 : Nat → Int32 → Int32 → Int32 → Int32 → Option (Int32)} (hK7 : ∀ (l0 : Nat) (l1 : Int32) (l2 : Int32) (l3 : Int32) (l4 : Int32), GX l G M_X2_keyAt (g_phi G (g_rI h) (m_R M_X2_keyAt).cells (m_R M_X2_keyAt).slots) 0 0 7 [some (.ref l0), some (.int l1), some (.int l2), some (.int l3), some (.int l4), none] [] h (K7 l0 l1 l2 l3 l4)) (l0 : Nat) (l1 : Int32) (l2 : Int32) (l3 : Int32) (l4 : Int32) : GX l G M_X2_keyAt (g_phi G (g_rI h) (m_R M_X2_keyAt).cells (m_R M_X2_keyAt).slots) 0 0 52 [some (.ref l0), some (.int l1), some (.int l2), some (.int l3), some (.int l4), none] [] h (f_X2_keyAt_b52 h K7 l0 l1 l2 l3 l4) := by
  unfold f_X2_keyAt_b52
  refine X_iinc (v := l4 + 1) rfl rfl rfl (congrArg (fun z => l4 + z) (by decide : Int32.ofInt 1 = 1)) rfl ?_
  refine X_goto rfl rfl ?_
  exact X_sub (g_sub_s (g_sub_s (g_sub_s (g_sub_s (g_sub_s (g_sub_n g_sub_0)))))) (hK7 _ _ _ _ _)
set_option maxRecDepth 100000 in
theorem b_X2_keyAt_b7 {l : Launch} {G : gG} {h : gH} : ∀ (n : Nat) (l0 : Nat) (l1 : Int32) (l2 : Int32) (l3 : Int32) (l4 : Int32), GX l G M_X2_keyAt (g_phi G (g_rI h) (m_R M_X2_keyAt).cells (m_R M_X2_keyAt).slots) 0 0 7 [some (.ref l0), some (.int l1), some (.int l2), some (.int l3), some (.int l4), none] [] h (f_X2_keyAt_b7 h n l0 l1 l2 l3 l4) := by
  intro n
  induction n with
  | zero => intros; exact X_none
  | succ n ih =>
    intro l0 l1 l2 l3 l4
    rw [f_X2_keyAt_b7]
    refine X_iload rfl rfl rfl ?_
    refine X_aload_n rfl rfl rfl ?_
    refine X_getI rfl rfl (fun v10 => ?_)
    refine X_bicmp_ge rfl rfl (fun _ => ?_) (fun _ => ?_)
    · refine X_aload_n rfl rfl rfl ?_
      refine X_getA rfl rfl (fun v17 => ?_)
      refine X_iload rfl rfl rfl ?_
      refine X_callSN_IR (M' := M_X7_valueAt) (nA := 2) (As := [.ref v17, .int l4]) (st := []) rfl rfl (by decide +kernel) rfl rfl rfl rfl rfl rfl rfl (fun _ e => ct_X7_valueAt e) (fun v22 => ?_)
      refine X_istore rfl rfl rfl rfl ?_
      refine X_iload rfl rfl rfl ?_
      refine X_iload_n rfl rfl rfl ?_
      refine X_bicmp_gt rfl rfl (fun _ => ?_) (fun _ => ?_)
      · refine X_iload rfl rfl rfl ?_
        refine X_iload_n rfl rfl rfl ?_
        refine X_bicmp_le rfl rfl (fun _ => ?_) (fun _ => ?_)
        · refine X_iload rfl rfl rfl ?_
          refine X_istore_n rfl rfl rfl rfl ?_
          refine X_aload_n rfl rfl rfl ?_
          refine X_getA rfl rfl (fun v43 => ?_)
          refine X_iload rfl rfl rfl ?_
          refine X_callSN_IR (M' := M_X7_valueAt) (nA := 2) (As := [.ref v43, .int l4]) (st := []) rfl rfl (by decide +kernel) rfl rfl rfl rfl rfl rfl rfl (fun _ e => ct_X7_valueAt e) (fun v48 => ?_)
          refine X_istore_n rfl rfl rfl rfl ?_
          exact X_sub (g_sub_s (g_sub_s (g_sub_s (g_sub_s (g_sub_s (g_sub_n g_sub_0)))))) (b_X2_keyAt_b52 ih _ _ _ _ _)
        · exact X_sub (g_sub_s (g_sub_s (g_sub_s (g_sub_s (g_sub_s (g_sub_n g_sub_0)))))) (b_X2_keyAt_b52 ih _ _ _ _ _)
      · exact X_sub (g_sub_s (g_sub_s (g_sub_s (g_sub_s (g_sub_s (g_sub_n g_sub_0)))))) (b_X2_keyAt_b52 ih _ _ _ _ _)
    · refine X_iload_n rfl rfl rfl ?_
      exact X_iret rfl rfl rfl rfl rfl rfl rfl
set_option maxRecDepth 100000 in
theorem ct_X2_keyAt {l : Launch} {G : gG} {h : gH} {a0 : Nat} {p1 : Int32} {r : Int32} (e : f_X2_keyAt h a0 p1 = some r) : Ct l G M_X2_keyAt [.ref a0, .int p1] h (some (.int r)) h := by
  refine Ct_of (L := [some (.ref a0), some (.int p1), none, none, none, none]) ok_X2_keyAt (by decide +kernel) rfl rfl rfl (ρ := (g_rI h)) (F := f_X2_keyAt h a0 p1) ?_ e rfl
  unfold f_X2_keyAt
  refine X_iconst (v := -1) rfl rfl (by decide) ?_
  refine X_istore_n rfl rfl rfl rfl ?_
  refine X_iconst (v := 0) rfl rfl (by decide) ?_
  refine X_istore_n rfl rfl rfl rfl ?_
  refine X_iconst (v := 0) rfl rfl (by decide) ?_
  refine X_istore rfl rfl rfl rfl ?_
  exact X_sub (g_sub_s (g_sub_s (g_sub_s (g_sub_s (g_sub_s (g_sub_n g_sub_0)))))) (b_X2_keyAt_b7  _ _ _ _ _ _)
def f_X0_take (h : gH) (a0 : Nat) (p1 : Int32) : Option gH :=
  (g_put h a0 0 3 (.int p1)).bind fun h2 =>
  (g_put h2 a0 0 4 (.int 0)).bind fun h7 =>
  (g_put h7 a0 0 5 (.int 0)).bind fun h12 =>
  (g_put h12 a0 0 6 (.int 0)).bind fun h17 =>
  (g_put h17 a0 0 8 (.int 0)).bind fun h22 =>
  (g_put h22 a0 0 9 (.int 0)).bind fun h27 =>
  some h27
set_option maxRecDepth 100000 in
theorem ct_X0_take {l : Launch} {G : gG} {h : gH} {a0 : Nat} {p1 : Int32} {h1 : gH} (e : f_X0_take h a0 p1 = some h1) : Ct l G M_X0_take [.ref a0, .int p1] h none h1 := by
  refine Ct_of (L := [some (.ref a0), some (.int p1)]) ok_X0_take (by decide +kernel) rfl rfl rfl (ρ := g_wU) (F := f_X0_take h a0 p1) ?_ e rfl
  unfold f_X0_take
  refine X_aload_n rfl rfl rfl ?_
  refine X_iload_n rfl rfl rfl ?_
  refine X_put rfl rfl rfl rfl rfl (fun h2 => ?_)
  refine X_aload_n rfl rfl rfl ?_
  refine X_iconst (v := 0) rfl rfl (by decide) ?_
  refine X_put rfl rfl rfl rfl rfl (fun h7 => ?_)
  refine X_aload_n rfl rfl rfl ?_
  refine X_iconst (v := 0) rfl rfl (by decide) ?_
  refine X_put rfl rfl rfl rfl rfl (fun h12 => ?_)
  refine X_aload_n rfl rfl rfl ?_
  refine X_iconst (v := 0) rfl rfl (by decide) ?_
  refine X_put rfl rfl rfl rfl rfl (fun h17 => ?_)
  refine X_aload_n rfl rfl rfl ?_
  refine X_iconst (v := 0) rfl rfl (by decide) ?_
  refine X_put rfl rfl rfl rfl rfl (fun h22 => ?_)
  refine X_aload_n rfl rfl rfl ?_
  refine X_iconst (v := 0) rfl rfl (by decide) ?_
  refine X_put rfl rfl rfl rfl rfl (fun h27 => ?_)
  exact X_vret rfl rfl rfl rfl rfl rfl
def f_X0_becomeIdle (h : gH) (a0 : Nat) : Option gH :=
  bif g_is h a0 0 then
  (f_X0_take h a0 (-1)).bind fun h2 =>
  some h2
  else none
set_option maxRecDepth 100000 in
theorem ct_X0_becomeIdle {l : Launch} {G : gG} {h : gH} {a0 : Nat} {h1 : gH} (e : f_X0_becomeIdle h a0 = some h1) : Ct l G M_X0_becomeIdle [.ref a0] h none h1 := by
  refine Ct_of (L := [some (.ref a0)]) ok_X0_becomeIdle (by decide +kernel) rfl rfl rfl (ρ := g_wU) (F := f_X0_becomeIdle h a0) ?_ e rfl
  unfold f_X0_becomeIdle
  refine X_aload_n rfl rfl rfl ?_
  refine X_iconst (v := -1) rfl rfl (by decide) ?_
  refine X_callV_UW (M' := M_X0_take) (nA := 1) (As := [.int (-1)]) (st := []) (b := a0) (ci := 0) rfl rfl (by decide +kernel) rfl rfl rfl rfl rfl rfl rfl rfl (fun _ e => ct_X0_take e) (fun h2 => ?_)
  exact X_vret rfl rfl rfl rfl rfl rfl
def f_X0_clear (h : gH) (a0 : Nat) : Option gH :=
  (g_put h a0 0 0 (.int 5)).bind fun h2 =>
  (g_put h2 a0 0 1 (.int 0)).bind fun h7 =>
  (g_put h7 a0 0 2 (.int 0)).bind fun h12 =>
  bif g_is h12 a0 0 then
  (f_X0_becomeIdle h12 a0).bind fun h16 =>
  some h16
  else none
set_option maxRecDepth 100000 in
theorem ct_X0_clear {l : Launch} {G : gG} {h : gH} {a0 : Nat} {h1 : gH} (e : f_X0_clear h a0 = some h1) : Ct l G M_X0_clear [.ref a0] h none h1 := by
  refine Ct_of (L := [some (.ref a0)]) ok_X0_clear (by decide +kernel) rfl rfl rfl (ρ := g_wU) (F := f_X0_clear h a0) ?_ e rfl
  unfold f_X0_clear
  refine X_aload_n rfl rfl rfl ?_
  refine X_iconst (v := 5) rfl rfl (by decide) ?_
  refine X_put rfl rfl rfl rfl rfl (fun h2 => ?_)
  refine X_aload_n rfl rfl rfl ?_
  refine X_iconst (v := 0) rfl rfl (by decide) ?_
  refine X_put rfl rfl rfl rfl rfl (fun h7 => ?_)
  refine X_aload_n rfl rfl rfl ?_
  refine X_iconst (v := 0) rfl rfl (by decide) ?_
  refine X_put rfl rfl rfl rfl rfl (fun h12 => ?_)
  refine X_aload_n rfl rfl rfl ?_
  refine X_callV_UW (M' := M_X0_becomeIdle) (nA := 0) (As := []) (st := []) (b := a0) (ci := 0) rfl rfl (by decide +kernel) rfl rfl rfl rfl rfl rfl rfl rfl (fun _ e => ct_X0_becomeIdle e) (fun h16 => ?_)
  exact X_vret rfl rfl rfl rfl rfl rfl
def f_X0_copyFrom (h : gH) (a0 : Nat) (p1 : Nat) : Option gH :=
  (g_gI h p1 0 0).bind fun v2 =>
  (g_put h a0 0 0 (.int v2)).bind fun h5 =>
  (g_gI h5 p1 0 1).bind fun v10 =>
  (g_put h5 a0 0 1 (.int v10)).bind fun h13 =>
  (g_gI h13 p1 0 2).bind fun v18 =>
  (g_put h13 a0 0 2 (.int v18)).bind fun h21 =>
  (g_gI h21 p1 0 3).bind fun v26 =>
  (g_put h21 a0 0 3 (.int v26)).bind fun h29 =>
  (g_gI h29 p1 0 4).bind fun v34 =>
  (g_put h29 a0 0 4 (.int v34)).bind fun h37 =>
  (g_gI h37 p1 0 5).bind fun v42 =>
  (g_put h37 a0 0 5 (.int v42)).bind fun h45 =>
  (g_gI h45 p1 0 6).bind fun v50 =>
  (g_put h45 a0 0 6 (.int v50)).bind fun h53 =>
  (g_gA h53 p1 0 7).bind fun v57 =>
  (g_gA h53 a0 0 7).bind fun v61 =>
  (f_X7_copyRow h53 v57 v61).bind fun h64 =>
  (g_gI h64 p1 0 8).bind fun v69 =>
  (g_z v69).bind fun z72 =>
  (g_put h64 a0 0 8 (.int v69)).bind fun h72 =>
  (g_gI h72 p1 0 9).bind fun v77 =>
  (g_z v77).bind fun z80 =>
  (g_put h72 a0 0 9 (.int v77)).bind fun h80 =>
  some h80
set_option maxRecDepth 100000 in
theorem ct_X0_copyFrom {l : Launch} {G : gG} {h : gH} {a0 : Nat} {p1 : Nat} {h1 : gH} (e : f_X0_copyFrom h a0 p1 = some h1) : Ct l G M_X0_copyFrom [.ref a0, .ref p1] h none h1 := by
  refine Ct_of (L := [some (.ref a0), some (.ref p1)]) ok_X0_copyFrom (by decide +kernel) rfl rfl rfl (ρ := g_wU) (F := f_X0_copyFrom h a0 p1) ?_ e rfl
  unfold f_X0_copyFrom
  refine X_aload_n rfl rfl rfl ?_
  refine X_aload_n rfl rfl rfl ?_
  refine X_getI rfl rfl (fun v2 => ?_)
  refine X_put rfl rfl rfl rfl rfl (fun h5 => ?_)
  refine X_aload_n rfl rfl rfl ?_
  refine X_aload_n rfl rfl rfl ?_
  refine X_getI rfl rfl (fun v10 => ?_)
  refine X_put rfl rfl rfl rfl rfl (fun h13 => ?_)
  refine X_aload_n rfl rfl rfl ?_
  refine X_aload_n rfl rfl rfl ?_
  refine X_getI rfl rfl (fun v18 => ?_)
  refine X_put rfl rfl rfl rfl rfl (fun h21 => ?_)
  refine X_aload_n rfl rfl rfl ?_
  refine X_aload_n rfl rfl rfl ?_
  refine X_getI rfl rfl (fun v26 => ?_)
  refine X_put rfl rfl rfl rfl rfl (fun h29 => ?_)
  refine X_aload_n rfl rfl rfl ?_
  refine X_aload_n rfl rfl rfl ?_
  refine X_getI rfl rfl (fun v34 => ?_)
  refine X_put rfl rfl rfl rfl rfl (fun h37 => ?_)
  refine X_aload_n rfl rfl rfl ?_
  refine X_aload_n rfl rfl rfl ?_
  refine X_getI rfl rfl (fun v42 => ?_)
  refine X_put rfl rfl rfl rfl rfl (fun h45 => ?_)
  refine X_aload_n rfl rfl rfl ?_
  refine X_aload_n rfl rfl rfl ?_
  refine X_getI rfl rfl (fun v50 => ?_)
  refine X_put rfl rfl rfl rfl rfl (fun h53 => ?_)
  refine X_aload_n rfl rfl rfl ?_
  refine X_getA rfl rfl (fun v57 => ?_)
  refine X_aload_n rfl rfl rfl ?_
  refine X_getA rfl rfl (fun v61 => ?_)
  refine X_callSN_UW (M' := M_X7_copyRow) (nA := 2) (As := [.ref v57, .ref v61]) (st := []) rfl rfl (by decide +kernel) rfl rfl rfl rfl rfl rfl rfl (fun _ e => ct_X7_copyRow e) (fun h64 => ?_)
  refine X_aload_n rfl rfl rfl ?_
  refine X_aload_n rfl rfl rfl ?_
  refine X_getI rfl rfl (fun v69 => ?_)
  refine X_zb (fun z72 zz72 => ?_)
  refine X_put rfl rfl rfl (g_znar zz72) (g_zfit zz72) (fun h72 => ?_)
  refine X_aload_n rfl rfl rfl ?_
  refine X_aload_n rfl rfl rfl ?_
  refine X_getI rfl rfl (fun v77 => ?_)
  refine X_zb (fun z80 zz80 => ?_)
  refine X_put rfl rfl rfl (g_znar zz80) (g_zfit zz80) (fun h80 => ?_)
  exact X_vret rfl rfl rfl rfl rfl rfl
def f_X0_isOpenAt_b65 (h : gH) : Option (Int32) :=
  some 1
def f_X0_isOpenAt (h : gH) (a0 : Nat) (p1 : Int32) : Option (Int32) :=
  (g_gI h a0 0 1).bind fun v6 =>
  (g_gI h a0 0 2).bind fun v10 =>
  (if v6 < v10 then
    (g_gI h a0 0 1).bind fun v18 =>
    (if v18 ≤ (g_rem p1 24) then
      (g_gI h a0 0 2).bind fun v26 =>
      (if (g_rem p1 24) < v26 then
        some 1
      else
        some 0)
    else
      some 0)
  else
    (g_gI h a0 0 1).bind fun v39 =>
    (g_gI h a0 0 2).bind fun v43 =>
    (if v39 = v43 then
      f_X0_isOpenAt_b65 h
    else
      (g_gI h a0 0 1).bind fun v51 =>
      (if (g_rem p1 24) < v51 then
        (g_gI h a0 0 2).bind fun v59 =>
        (if (g_rem p1 24) < v59 then
          f_X0_isOpenAt_b65 h
        else
          some 0)
      else
        f_X0_isOpenAt_b65 h)))
set_option maxRecDepth 100000 in
theorem b_X0_isOpenAt_b65 {l : Launch} {G : gG} {h : gH} : GX l G M_X0_isOpenAt (g_phi G (g_rI h) (m_R M_X0_isOpenAt).cells (m_R M_X0_isOpenAt).slots) 0 0 65 [none, none, none] [] h (f_X0_isOpenAt_b65 h) := by
  unfold f_X0_isOpenAt_b65
  refine X_iconst (v := 1) rfl rfl (by decide) ?_
  refine X_goto rfl rfl ?_
  exact X_iret rfl rfl rfl rfl rfl rfl rfl
set_option maxRecDepth 100000 in
theorem ct_X0_isOpenAt {l : Launch} {G : gG} {h : gH} {a0 : Nat} {p1 : Int32} {r : Int32} (e : f_X0_isOpenAt h a0 p1 = some r) : Ct l G M_X0_isOpenAt [.ref a0, .int p1] h (some (.int r)) h := by
  refine Ct_of (L := [some (.ref a0), some (.int p1), none]) ok_X0_isOpenAt (by decide +kernel) rfl rfl rfl (ρ := (g_rI h)) (F := f_X0_isOpenAt h a0 p1) ?_ e rfl
  unfold f_X0_isOpenAt
  refine X_iload_n rfl rfl rfl ?_
  refine X_bipush (v := 24) rfl rfl (by decide) ?_
  refine X_irem (v := g_rem p1 24) rfl rfl rfl (by decide) ?_
  refine X_istore_n rfl rfl rfl rfl ?_
  refine X_aload_n rfl rfl rfl ?_
  refine X_getI rfl rfl (fun v6 => ?_)
  refine X_aload_n rfl rfl rfl ?_
  refine X_getI rfl rfl (fun v10 => ?_)
  refine X_bicmp_ge rfl rfl (fun _ => ?_) (fun _ => ?_)
  · refine X_iload_n rfl rfl rfl ?_
    refine X_aload_n rfl rfl rfl ?_
    refine X_getI rfl rfl (fun v18 => ?_)
    refine X_bicmp_lt rfl rfl (fun _ => ?_) (fun _ => ?_)
    · refine X_iload_n rfl rfl rfl ?_
      refine X_aload_n rfl rfl rfl ?_
      refine X_getI rfl rfl (fun v26 => ?_)
      refine X_bicmp_ge rfl rfl (fun _ => ?_) (fun _ => ?_)
      · refine X_iconst (v := 1) rfl rfl (by decide) ?_
        refine X_goto rfl rfl ?_
        exact X_iret rfl rfl rfl rfl rfl rfl rfl
      · refine X_iconst (v := 0) rfl rfl (by decide) ?_
        exact X_iret rfl rfl rfl rfl rfl rfl rfl
    · refine X_iconst (v := 0) rfl rfl (by decide) ?_
      exact X_iret rfl rfl rfl rfl rfl rfl rfl
  · refine X_aload_n rfl rfl rfl ?_
    refine X_getI rfl rfl (fun v39 => ?_)
    refine X_aload_n rfl rfl rfl ?_
    refine X_getI rfl rfl (fun v43 => ?_)
    refine X_bicmp_eq rfl rfl (fun _ => ?_) (fun _ => ?_)
    · exact X_sub (g_sub_n (g_sub_n (g_sub_n g_sub_0))) (b_X0_isOpenAt_b65  )
    · refine X_iload_n rfl rfl rfl ?_
      refine X_aload_n rfl rfl rfl ?_
      refine X_getI rfl rfl (fun v51 => ?_)
      refine X_bicmp_ge rfl rfl (fun _ => ?_) (fun _ => ?_)
      · refine X_iload_n rfl rfl rfl ?_
        refine X_aload_n rfl rfl rfl ?_
        refine X_getI rfl rfl (fun v59 => ?_)
        refine X_bicmp_ge rfl rfl (fun _ => ?_) (fun _ => ?_)
        · exact X_sub (g_sub_n (g_sub_n (g_sub_n g_sub_0))) (b_X0_isOpenAt_b65  )
        · refine X_iconst (v := 0) rfl rfl (by decide) ?_
          exact X_iret rfl rfl rfl rfl rfl rfl rfl
      · exact X_sub (g_sub_n (g_sub_n (g_sub_n g_sub_0))) (b_X0_isOpenAt_b65  )
def f_X0_isIdle (h : gH) (a0 : Nat) : Option (Int32) :=
  (g_gI h a0 0 3).bind fun v1 =>
  (if v1 = (-1) then
    some 1
  else
    some 0)
set_option maxRecDepth 100000 in
theorem ct_X0_isIdle {l : Launch} {G : gG} {h : gH} {a0 : Nat} {r : Int32} (e : f_X0_isIdle h a0 = some r) : Ct l G M_X0_isIdle [.ref a0] h (some (.int r)) h := by
  refine Ct_of (L := [some (.ref a0)]) ok_X0_isIdle (by decide +kernel) rfl rfl rfl (ρ := (g_rI h)) (F := f_X0_isIdle h a0) ?_ e rfl
  unfold f_X0_isIdle
  refine X_aload_n rfl rfl rfl ?_
  refine X_getI rfl rfl (fun v1 => ?_)
  refine X_iconst (v := -1) rfl rfl (by decide) ?_
  refine X_bicmp_ne rfl rfl (fun _ => ?_) (fun _ => ?_)
  · refine X_iconst (v := 1) rfl rfl (by decide) ?_
    refine X_goto rfl rfl ?_
    exact X_iret rfl rfl rfl rfl rfl rfl rfl
  · refine X_iconst (v := 0) rfl rfl (by decide) ?_
    exact X_iret rfl rfl rfl rfl rfl rfl rfl
def f_X0_figure (h : gH) (a0 : Nat) (p1 : Int32) (p2 : Int32) : Option (Int32) :=
  (if p1 = 0 then
    (g_gI h a0 0 0).bind fun v37 =>
    some v37
  else
    (if p1 = 1 then
      (g_gI h a0 0 1).bind fun v42 =>
      some v42
    else
      (if p1 = 2 then
        (g_gI h a0 0 2).bind fun v47 =>
        some v47
      else
        (if p1 = 3 then
          bif g_is h a0 0 then
          (f_X0_isOpenAt h a0 p2).bind fun v53 =>
          (if v53 = 0 then
            some 0
          else
            some 1)
          else none
        else
          (if p1 = 4 then
            (g_gI h a0 0 3).bind fun v66 =>
            some v66
          else
            bif g_is h a0 0 then
            (f_X0_isIdle h a0).bind fun v71 =>
            (if v71 = 0 then
              (g_gI h a0 0 4).bind fun v82 =>
              some v82
            else
              some (-1))
            else none)))))
set_option maxRecDepth 100000 in
theorem ct_X0_figure {l : Launch} {G : gG} {h : gH} {a0 : Nat} {p1 : Int32} {p2 : Int32} {r : Int32} (e : f_X0_figure h a0 p1 p2 = some r) : Ct l G M_X0_figure [.ref a0, .int p1, .int p2] h (some (.int r)) h := by
  refine Ct_of (L := [some (.ref a0), some (.int p1), some (.int p2)]) ok_X0_figure (by decide +kernel) rfl rfl rfl (ρ := (g_rI h)) (F := f_X0_figure h a0 p1 p2) ?_ e rfl
  unfold f_X0_figure
  refine X_iload_n rfl rfl rfl ?_
  refine X_if (fun c1_0 => ?_) (fun c1_0 => ?_)
  · refine X_tswIn (v := 0) (len := 35) (tgt := 36) (off := 35) rfl rfl c1_0 (by decide) (by decide) rfl rfl ?_
    refine X_aload_n rfl rfl rfl ?_
    refine X_getI rfl rfl (fun v37 => ?_)
    exact X_iret rfl rfl rfl rfl rfl rfl rfl
  · refine X_if (fun c1_1 => ?_) (fun c1_1 => ?_)
    · refine X_tswIn (v := 1) (len := 35) (tgt := 41) (off := 40) rfl rfl c1_1 (by decide) (by decide) rfl rfl ?_
      refine X_aload_n rfl rfl rfl ?_
      refine X_getI rfl rfl (fun v42 => ?_)
      exact X_iret rfl rfl rfl rfl rfl rfl rfl
    · refine X_if (fun c1_2 => ?_) (fun c1_2 => ?_)
      · refine X_tswIn (v := 2) (len := 35) (tgt := 46) (off := 45) rfl rfl c1_2 (by decide) (by decide) rfl rfl ?_
        refine X_aload_n rfl rfl rfl ?_
        refine X_getI rfl rfl (fun v47 => ?_)
        exact X_iret rfl rfl rfl rfl rfl rfl rfl
      · refine X_if (fun c1_3 => ?_) (fun c1_3 => ?_)
        · refine X_tswIn (v := 3) (len := 35) (tgt := 51) (off := 50) rfl rfl c1_3 (by decide) (by decide) rfl rfl ?_
          refine X_aload_n rfl rfl rfl ?_
          refine X_iload_n rfl rfl rfl ?_
          refine X_callV_IR (M' := M_X0_isOpenAt) (nA := 1) (As := [.int p2]) (st := []) (b := a0) (ci := 0) rfl rfl (by decide +kernel) rfl rfl rfl rfl rfl rfl rfl rfl (fun _ e => ct_X0_isOpenAt e) (fun v53 => ?_)
          refine X_bif_eq rfl rfl (fun _ => ?_) (fun _ => ?_)
          · refine X_iconst (v := 0) rfl rfl (by decide) ?_
            exact X_iret rfl rfl rfl rfl rfl rfl rfl
          · refine X_iconst (v := 1) rfl rfl (by decide) ?_
            refine X_goto rfl rfl ?_
            exact X_iret rfl rfl rfl rfl rfl rfl rfl
        · refine X_if (fun c1_4 => ?_) (fun c1_4 => ?_)
          · refine X_tswIn (v := 4) (len := 35) (tgt := 65) (off := 64) rfl rfl c1_4 (by decide) (by decide) rfl rfl ?_
            refine X_aload_n rfl rfl rfl ?_
            refine X_getI rfl rfl (fun v66 => ?_)
            exact X_iret rfl rfl rfl rfl rfl rfl rfl
          · refine X_tswOut (len := 35) (tgt := 70) rfl rfl (by have := g_neI c1_0 (show Int32.toInt (0) = 0 by decide) ; have := g_neI c1_1 (show Int32.toInt (1) = 1 by decide) ; have := g_neI c1_2 (show Int32.toInt (2) = 2 by decide) ; have := g_neI c1_3 (show Int32.toInt (3) = 3 by decide) ; have := g_neI c1_4 (show Int32.toInt (4) = 4 by decide); omega) rfl ?_
            refine X_aload_n rfl rfl rfl ?_
            refine X_callV_IR (M' := M_X0_isIdle) (nA := 0) (As := []) (st := []) (b := a0) (ci := 0) rfl rfl (by decide +kernel) rfl rfl rfl rfl rfl rfl rfl rfl (fun _ e => ct_X0_isIdle e) (fun v71 => ?_)
            refine X_bif_eq rfl rfl (fun _ => ?_) (fun _ => ?_)
            · refine X_aload_n rfl rfl rfl ?_
              refine X_getI rfl rfl (fun v82 => ?_)
              exact X_iret rfl rfl rfl rfl rfl rfl rfl
            · refine X_iconst (v := -1) rfl rfl (by decide) ?_
              refine X_goto rfl rfl ?_
              exact X_iret rfl rfl rfl rfl rfl rfl rfl
def f_X0_hear (h : gH) (a0 : Nat) (p1 : Int32) : Option gH :=
  (g_gA h a0 0 7).bind fun v1 =>
  (g_gI h a0 0 6).bind fun v5 =>
  (f_X7_setAt h v1 v5 p1).bind fun h9 =>
  (g_gI h9 a0 0 6).bind fun v14 =>
  (g_put h9 a0 0 6 (.int (v14 + 1))).bind fun h19 =>
  some h19
set_option maxRecDepth 100000 in
theorem ct_X0_hear {l : Launch} {G : gG} {h : gH} {a0 : Nat} {p1 : Int32} {h1 : gH} (e : f_X0_hear h a0 p1 = some h1) : Ct l G M_X0_hear [.ref a0, .int p1] h none h1 := by
  refine Ct_of (L := [some (.ref a0), some (.int p1)]) ok_X0_hear (by decide +kernel) rfl rfl rfl (ρ := g_wU) (F := f_X0_hear h a0 p1) ?_ e rfl
  unfold f_X0_hear
  refine X_aload_n rfl rfl rfl ?_
  refine X_getA rfl rfl (fun v1 => ?_)
  refine X_aload_n rfl rfl rfl ?_
  refine X_getI rfl rfl (fun v5 => ?_)
  refine X_iload_n rfl rfl rfl ?_
  refine X_callSN_UW (M' := M_X7_setAt) (nA := 3) (As := [.ref v1, .int v5, .int p1]) (st := []) rfl rfl (by decide +kernel) rfl rfl rfl rfl rfl rfl rfl (fun _ e => ct_X7_setAt e) (fun h9 => ?_)
  refine X_aload_n rfl rfl rfl ?_
  refine X_dup rfl rfl rfl ?_
  refine X_getI rfl rfl (fun v14 => ?_)
  refine X_iconst (v := 1) rfl rfl (by decide) ?_
  refine X_iadd rfl rfl ?_
  refine X_put rfl rfl rfl rfl rfl (fun h19 => ?_)
  exact X_vret rfl rfl rfl rfl rfl rfl
def f_X0_judge_b53 (h : gH) (s0 : Int32) (s1 : Nat) : Option gH :=
  (g_z s0).bind fun z53 =>
  (g_put h s1 0 9 (.int s0)).bind fun h53 =>
  some h53
def f_X0_judge_b52 (h : gH) (s0 : Nat) : Option gH :=
  f_X0_judge_b53 h 0 s0
def f_X0_judge_b8 : Nat → gH → Nat → Int32 → Int32 → Int32 → Int32 → Option gH
  | 0, _, _, _, _, _, _ => none
  | n + 1, h, l0, l1, l2, l3, l4 =>
    (if l4 < l1 then
      (g_gA h l0 0 7).bind fun v16 =>
      (f_X7_valueAt h v16 l4).bind fun v21 =>
      f_X0_judge_b8  n h l0 l1 l2 (l3 + v21) (l4 + 1)
    else
      (g_gI h l0 0 8).bind fun v34 =>
      (if v34 = 0 then
        (if (g_rem l3 26) = l2 then
          f_X0_judge_b53 h 1 l0
        else
          f_X0_judge_b52 h l0)
      else
        f_X0_judge_b52 h l0))
def f_X0_judge (h : gH) (a0 : Nat) (p1 : Int32) (p2 : Int32) : Option gH :=
  (g_gI h a0 0 5).bind fun v1 =>
  f_X0_judge_b8 g_N h a0 p1 p2 v1 0
set_option maxRecDepth 100000 in
theorem b_X0_judge_b53 {l : Launch} {G : gG} (h : gH) (s0 : Int32) (s1 : Nat) : GX l G M_X0_judge (g_phi G g_wU (m_R M_X0_judge).cells (m_R M_X0_judge).slots) 0 0 53 [none, none, none, none, none] [.int s0, .ref s1] h (f_X0_judge_b53 h s0 s1) := by
  unfold f_X0_judge_b53
  refine X_zb (fun z53 zz53 => ?_)
  refine X_put rfl rfl rfl (g_znar zz53) (g_zfit zz53) (fun h53 => ?_)
  exact X_vret rfl rfl rfl rfl rfl rfl
set_option maxRecDepth 100000 in
theorem b_X0_judge_b52 {l : Launch} {G : gG} (h : gH) (s0 : Nat) : GX l G M_X0_judge (g_phi G g_wU (m_R M_X0_judge).cells (m_R M_X0_judge).slots) 0 0 52 [none, none, none, none, none] [.ref s0] h (f_X0_judge_b52 h s0) := by
  unfold f_X0_judge_b52
  refine X_iconst (v := 0) rfl rfl (by decide) ?_
  exact X_sub (g_sub_n (g_sub_n (g_sub_n (g_sub_n (g_sub_n g_sub_0))))) (b_X0_judge_b53  _ _ _)
set_option maxRecDepth 100000 in
theorem b_X0_judge_b8 {l : Launch} {G : gG} : ∀ (n : Nat) (h : gH) (l0 : Nat) (l1 : Int32) (l2 : Int32) (l3 : Int32) (l4 : Int32), GX l G M_X0_judge (g_phi G g_wU (m_R M_X0_judge).cells (m_R M_X0_judge).slots) 0 0 8 [some (.ref l0), some (.int l1), some (.int l2), some (.int l3), some (.int l4)] [] h (f_X0_judge_b8 n h l0 l1 l2 l3 l4) := by
  intro n
  induction n with
  | zero => intros; exact X_none
  | succ n ih =>
    intro h l0 l1 l2 l3 l4
    rw [f_X0_judge_b8]
    refine X_iload rfl rfl rfl ?_
    refine X_iload_n rfl rfl rfl ?_
    refine X_bicmp_ge rfl rfl (fun _ => ?_) (fun _ => ?_)
    · refine X_iload_n rfl rfl rfl ?_
      refine X_aload_n rfl rfl rfl ?_
      refine X_getA rfl rfl (fun v16 => ?_)
      refine X_iload rfl rfl rfl ?_
      refine X_callSN_IR (M' := M_X7_valueAt) (nA := 2) (As := [.ref v16, .int l4]) (st := [.int l3]) rfl rfl (by decide +kernel) rfl rfl rfl rfl rfl rfl rfl (fun _ e => ct_X7_valueAt e) (fun v21 => ?_)
      refine X_iadd rfl rfl ?_
      refine X_istore_n rfl rfl rfl rfl ?_
      refine X_iinc (v := l4 + 1) rfl rfl rfl (congrArg (fun z => l4 + z) (by decide : Int32.ofInt 1 = 1)) rfl ?_
      refine X_goto rfl rfl ?_
      exact X_sub (g_sub_s (g_sub_s (g_sub_s (g_sub_s (g_sub_s g_sub_0))))) (ih _ _ _ _ _ _)
    · refine X_aload_n rfl rfl rfl ?_
      refine X_aload_n rfl rfl rfl ?_
      refine X_getI rfl rfl (fun v34 => ?_)
      refine X_bif_ne rfl rfl (fun _ => ?_) (fun _ => ?_)
      · refine X_iload_n rfl rfl rfl ?_
        refine X_bipush (v := 26) rfl rfl (by decide) ?_
        refine X_irem (v := g_rem l3 26) rfl rfl rfl (by decide) ?_
        refine X_iload_n rfl rfl rfl ?_
        refine X_bicmp_ne rfl rfl (fun _ => ?_) (fun _ => ?_)
        · refine X_iconst (v := 1) rfl rfl (by decide) ?_
          refine X_goto rfl rfl ?_
          exact X_sub (g_sub_n (g_sub_n (g_sub_n (g_sub_n (g_sub_n g_sub_0))))) (b_X0_judge_b53  _ _ _)
        · exact X_sub (g_sub_n (g_sub_n (g_sub_n (g_sub_n (g_sub_n g_sub_0))))) (b_X0_judge_b52  _ _)
      · exact X_sub (g_sub_n (g_sub_n (g_sub_n (g_sub_n (g_sub_n g_sub_0))))) (b_X0_judge_b52  _ _)
set_option maxRecDepth 100000 in
theorem ct_X0_judge {l : Launch} {G : gG} {h : gH} {a0 : Nat} {p1 : Int32} {p2 : Int32} {h1 : gH} (e : f_X0_judge h a0 p1 p2 = some h1) : Ct l G M_X0_judge [.ref a0, .int p1, .int p2] h none h1 := by
  refine Ct_of (L := [some (.ref a0), some (.int p1), some (.int p2), none, none]) ok_X0_judge (by decide +kernel) rfl rfl rfl (ρ := g_wU) (F := f_X0_judge h a0 p1 p2) ?_ e rfl
  unfold f_X0_judge
  refine X_aload_n rfl rfl rfl ?_
  refine X_getI rfl rfl (fun v1 => ?_)
  refine X_istore_n rfl rfl rfl rfl ?_
  refine X_iconst (v := 0) rfl rfl (by decide) ?_
  refine X_istore rfl rfl rfl rfl ?_
  exact X_sub (g_sub_s (g_sub_s (g_sub_s (g_sub_s (g_sub_s g_sub_0))))) (b_X0_judge_b8  _ _ _ _ _ _ _)
