def f_X5_byteAt (h : gH) (a0 : Nat) (p1 : Int32) : Option (Int32) :=
  (if 0 ≤ p1 then
    (g_gI h a0 5 1).bind fun v6 =>
    (if p1 < v6 then
      (g_gA h a0 5 0).bind fun v14 =>
      (g_aln h v14).bind fun v17 =>
      (if p1 < v17 then
        (g_gA h a0 5 0).bind fun v22 =>
        (g_bld h v22 p1).bind fun v26 =>
        some v26
      else
        some (-1))
    else
      some (-1))
  else
    some (-1))
set_option maxRecDepth 100000 in
theorem ct_X5_byteAt {l : Launch} {G : gG} {h : gH} {a0 : Nat} {p1 : Int32} {r : Int32} (e : f_X5_byteAt h a0 p1 = some r) : Ct l G M_X5_byteAt [.ref a0, .int p1] h (some (.int r)) h := by
  refine Ct_of (L := [some (.ref a0), some (.int p1)]) ok_X5_byteAt (by decide +kernel) rfl rfl rfl (ρ := (g_rI h)) (F := f_X5_byteAt h a0 p1) ?_ e rfl
  unfold f_X5_byteAt
  refine X_iload_n rfl rfl rfl ?_
  refine X_bif_lt rfl rfl (fun _ => ?_) (fun _ => ?_)
  · refine X_iload_n rfl rfl rfl ?_
    refine X_aload_n rfl rfl rfl ?_
    refine X_getI rfl rfl (fun v6 => ?_)
    refine X_bicmp_ge rfl rfl (fun _ => ?_) (fun _ => ?_)
    · refine X_iload_n rfl rfl rfl ?_
      refine X_aload_n rfl rfl rfl ?_
      refine X_getA rfl rfl (fun v14 => ?_)
      refine X_aln rfl rfl (fun v17 => ?_)
      refine X_bicmp_ge rfl rfl (fun _ => ?_) (fun _ => ?_)
      · refine X_aload_n rfl rfl rfl ?_
        refine X_getA rfl rfl (fun v22 => ?_)
        refine X_iload_n rfl rfl rfl ?_
        refine X_bld rfl rfl (fun v26 => ?_)
        refine X_goto rfl rfl ?_
        exact X_iret rfl rfl rfl rfl rfl rfl rfl
      · refine X_iconst (v := -1) rfl rfl (by decide) ?_
        exact X_iret rfl rfl rfl rfl rfl rfl rfl
    · refine X_iconst (v := -1) rfl rfl (by decide) ?_
      exact X_iret rfl rfl rfl rfl rfl rfl rfl
  · refine X_iconst (v := -1) rfl rfl (by decide) ?_
    exact X_iret rfl rfl rfl rfl rfl rfl rfl
def f_X5_findToken_b37 (h : gH) (l0 : Nat) : Option (Int32 × gH) :=
  (g_gI h l0 5 2).bind fun v39 =>
  (g_put h l0 5 3 (.int v39)).bind fun h42 =>
  (g_gI h42 l0 5 2).bind fun v46 =>
  (g_gI h42 l0 5 1).bind fun v50 =>
  (if v46 < v50 then
    some (1, h42)
  else
    some (0, h42))
def f_X5_findToken_b0 : Nat → gH → Nat → Option (Int32 × gH)
  | 0, _, _ => none
  | n + 1, h, l0 =>
    (g_gI h l0 5 2).bind fun v1 =>
    (g_gI h l0 5 1).bind fun v5 =>
    (if v1 < v5 then
      (g_gI h l0 5 2).bind fun v13 =>
      bif g_is h l0 5 then
      (f_X5_byteAt h l0 v13).bind fun v16 =>
      (if v16 = 32 then
        (g_gI h l0 5 2).bind fun v26 =>
        (g_put h l0 5 2 (.int (v26 + 1))).bind fun h31 =>
        f_X5_findToken_b0  n h31 l0
      else
        f_X5_findToken_b37 h l0)
      else none
    else
      f_X5_findToken_b37 h l0)
def f_X5_findToken (h : gH) (a0 : Nat) : Option (Int32 × gH) :=
  f_X5_findToken_b0 g_N h a0
set_option maxRecDepth 100000 in
theorem b_X5_findToken_b37 {l : Launch} {G : gG} (h : gH) (l0 : Nat) : GX l G M_X5_findToken (g_phi G g_wI (m_R M_X5_findToken).cells (m_R M_X5_findToken).slots) 0 0 37 [some (.ref l0)] [] h (f_X5_findToken_b37 h l0) := by
  unfold f_X5_findToken_b37
  refine X_aload_n rfl rfl rfl ?_
  refine X_aload_n rfl rfl rfl ?_
  refine X_getI rfl rfl (fun v39 => ?_)
  refine X_put rfl rfl rfl rfl rfl (fun h42 => ?_)
  refine X_aload_n rfl rfl rfl ?_
  refine X_getI rfl rfl (fun v46 => ?_)
  refine X_aload_n rfl rfl rfl ?_
  refine X_getI rfl rfl (fun v50 => ?_)
  refine X_bicmp_ge rfl rfl (fun _ => ?_) (fun _ => ?_)
  · refine X_iconst (v := 1) rfl rfl (by decide) ?_
    refine X_goto rfl rfl ?_
    exact X_iret rfl rfl rfl rfl rfl rfl rfl
  · refine X_iconst (v := 0) rfl rfl (by decide) ?_
    exact X_iret rfl rfl rfl rfl rfl rfl rfl
set_option maxRecDepth 100000 in
theorem b_X5_findToken_b0 {l : Launch} {G : gG} : ∀ (n : Nat) (h : gH) (l0 : Nat), GX l G M_X5_findToken (g_phi G g_wI (m_R M_X5_findToken).cells (m_R M_X5_findToken).slots) 0 0 0 [some (.ref l0)] [] h (f_X5_findToken_b0 n h l0) := by
  intro n
  induction n with
  | zero => intros; exact X_none
  | succ n ih =>
    intro h l0
    rw [f_X5_findToken_b0]
    refine X_aload_n rfl rfl rfl ?_
    refine X_getI rfl rfl (fun v1 => ?_)
    refine X_aload_n rfl rfl rfl ?_
    refine X_getI rfl rfl (fun v5 => ?_)
    refine X_bicmp_ge rfl rfl (fun _ => ?_) (fun _ => ?_)
    · refine X_aload_n rfl rfl rfl ?_
      refine X_aload_n rfl rfl rfl ?_
      refine X_getI rfl rfl (fun v13 => ?_)
      refine X_callV_IR (M' := M_X5_byteAt) (nA := 1) (As := [.int v13]) (st := []) (b := l0) (ci := 5) rfl rfl (by decide +kernel) rfl rfl rfl rfl rfl rfl rfl rfl (fun _ e => ct_X5_byteAt e) (fun v16 => ?_)
      refine X_bipush (v := 32) rfl rfl (by decide) ?_
      refine X_bicmp_ne rfl rfl (fun _ => ?_) (fun _ => ?_)
      · refine X_aload_n rfl rfl rfl ?_
        refine X_dup rfl rfl rfl ?_
        refine X_getI rfl rfl (fun v26 => ?_)
        refine X_iconst (v := 1) rfl rfl (by decide) ?_
        refine X_iadd rfl rfl ?_
        refine X_put rfl rfl rfl rfl rfl (fun h31 => ?_)
        refine X_goto rfl rfl ?_
        exact X_sub (g_sub_s g_sub_0) (ih _ _)
      · exact X_sub (g_sub_s g_sub_0) (b_X5_findToken_b37  _ _)
    · exact X_sub (g_sub_s g_sub_0) (b_X5_findToken_b37  _ _)
set_option maxRecDepth 100000 in
theorem ct_X5_findToken {l : Launch} {G : gG} {h : gH} {a0 : Nat} {r : Int32} {h1 : gH} (e : f_X5_findToken h a0 = some (r, h1)) : Ct l G M_X5_findToken [.ref a0] h (some (.int r)) h1 := by
  refine Ct_of (L := [some (.ref a0)]) ok_X5_findToken (by decide +kernel) rfl rfl rfl (ρ := g_wI) (F := f_X5_findToken h a0) ?_ e rfl
  unfold f_X5_findToken
  exact X_sub (g_sub_s g_sub_0) (b_X5_findToken_b0  _ _ _)
def f_X5_readWord_b5 : Nat → gH → Nat → Option gH
  | 0, _, _ => none
  | n + 1, h, l0 =>
    (g_gI h l0 5 2).bind fun v6 =>
    (g_gI h l0 5 1).bind fun v10 =>
    (if v6 < v10 then
      (g_gI h l0 5 2).bind fun v18 =>
      bif g_is h l0 5 then
      (f_X5_byteAt h l0 v18).bind fun v21 =>
      (if (f_X7_isWithin v21 97 122) = 0 then
        some h
      else
        (g_gI h l0 5 2).bind fun v36 =>
        (g_put h l0 5 2 (.int (v36 + 1))).bind fun h41 =>
        f_X5_readWord_b5  n h41 l0)
      else none
    else
      some h)
def f_X5_readWord (h : gH) (a0 : Nat) : Option gH :=
  bif g_is h a0 5 then
  (f_X5_findToken h a0).bind fun y1 =>
  f_X5_readWord_b5 g_N y1.2 a0
  else none
set_option maxRecDepth 100000 in
theorem b_X5_readWord_b5 {l : Launch} {G : gG} : ∀ (n : Nat) (h : gH) (l0 : Nat), GX l G M_X5_readWord (g_phi G g_wU (m_R M_X5_readWord).cells (m_R M_X5_readWord).slots) 0 0 5 [some (.ref l0)] [] h (f_X5_readWord_b5 n h l0) := by
  intro n
  induction n with
  | zero => intros; exact X_none
  | succ n ih =>
    intro h l0
    rw [f_X5_readWord_b5]
    refine X_aload_n rfl rfl rfl ?_
    refine X_getI rfl rfl (fun v6 => ?_)
    refine X_aload_n rfl rfl rfl ?_
    refine X_getI rfl rfl (fun v10 => ?_)
    refine X_bicmp_ge rfl rfl (fun _ => ?_) (fun _ => ?_)
    · refine X_aload_n rfl rfl rfl ?_
      refine X_aload_n rfl rfl rfl ?_
      refine X_getI rfl rfl (fun v18 => ?_)
      refine X_callV_IR (M' := M_X5_byteAt) (nA := 1) (As := [.int v18]) (st := []) (b := l0) (ci := 5) rfl rfl (by decide +kernel) rfl rfl rfl rfl rfl rfl rfl rfl (fun _ e => ct_X5_byteAt e) (fun v21 => ?_)
      refine X_bipush (v := 97) rfl rfl (by decide) ?_
      refine X_bipush (v := 122) rfl rfl (by decide) ?_
      refine X_callSN_IP (v := f_X7_isWithin v21 97 122) (M' := M_X7_isWithin) (nA := 3) (As := [.int v21, .int 97, .int 122]) (st := []) rfl rfl (by decide +kernel) rfl rfl rfl rfl rfl rfl rfl ct_X7_isWithin ?_
      refine X_bif_eq rfl rfl (fun _ => ?_) (fun _ => ?_)
      · exact X_vret rfl rfl rfl rfl rfl rfl
      · refine X_aload_n rfl rfl rfl ?_
        refine X_dup rfl rfl rfl ?_
        refine X_getI rfl rfl (fun v36 => ?_)
        refine X_iconst (v := 1) rfl rfl (by decide) ?_
        refine X_iadd rfl rfl ?_
        refine X_put rfl rfl rfl rfl rfl (fun h41 => ?_)
        refine X_goto rfl rfl ?_
        exact X_sub (g_sub_s g_sub_0) (ih _ _)
    · exact X_vret rfl rfl rfl rfl rfl rfl
set_option maxRecDepth 100000 in
theorem ct_X5_readWord {l : Launch} {G : gG} {h : gH} {a0 : Nat} {h1 : gH} (e : f_X5_readWord h a0 = some h1) : Ct l G M_X5_readWord [.ref a0] h none h1 := by
  refine Ct_of (L := [some (.ref a0)]) ok_X5_readWord (by decide +kernel) rfl rfl rfl (ρ := g_wU) (F := f_X5_readWord h a0) ?_ e rfl
  unfold f_X5_readWord
  refine X_aload_n rfl rfl rfl ?_
  refine X_callV_IW (M' := M_X5_findToken) (nA := 0) (As := []) (st := []) (b := a0) (ci := 5) rfl rfl (by decide +kernel) rfl rfl rfl rfl rfl rfl rfl rfl (fun _ _ e => ct_X5_findToken e) (fun y1 => ?_)
  refine X_pop rfl rfl rfl ?_
  exact X_sub (g_sub_s g_sub_0) (b_X5_readWord_b5  _ _ _)
def f_X5_isToken_b20 (h : gH) : Nat → Nat → Nat → Int32 → Option (Int32)
  | 0, _, _, _ => none
  | n + 1, l0, l1, l2 =>
    (g_slen l1).bind fun v22 =>
    (if l2 < v22 then
      (g_gI h l0 5 3).bind fun v30 =>
      bif g_is h l0 5 then
      (f_X5_byteAt h l0 (v30 + l2)).bind fun v35 =>
      (g_sch l1 l2).bind fun v40 =>
      (if v35 = v40 then
        f_X5_isToken_b20 h n l0 l1 (l2 + 1)
      else
        some 0)
      else none
    else
      some 1)
def f_X5_isToken (h : gH) (a0 : Nat) (p1 : Nat) : Option (Int32) :=
  (g_gI h a0 5 2).bind fun v1 =>
  (g_gI h a0 5 3).bind fun v5 =>
  (g_slen p1).bind fun v10 =>
  (if (v1 - v5) = v10 then
    f_X5_isToken_b20 h g_N a0 p1 0
  else
    some 0)
set_option maxRecDepth 100000 in
theorem b_X5_isToken_b20 {l : Launch} {G : gG} {h : gH} : ∀ (n : Nat) (l0 : Nat) (l1 : Nat) (l2 : Int32), GX l G M_X5_isToken (g_phi G (g_rI h) (m_R M_X5_isToken).cells (m_R M_X5_isToken).slots) 0 0 20 [some (.ref l0), some (.ref (g_aK G l1)), some (.int l2)] [] h (f_X5_isToken_b20 h n l0 l1 l2) := by
  intro n
  induction n with
  | zero => intros; exact X_none
  | succ n ih =>
    intro l0 l1 l2
    rw [f_X5_isToken_b20]
    refine X_iload_n rfl rfl rfl ?_
    refine X_aload_n rfl rfl rfl ?_
    refine X_slen rfl rfl (by decide +kernel) rfl rfl rfl (fun v22 => ?_)
    refine X_bicmp_ge rfl rfl (fun _ => ?_) (fun _ => ?_)
    · refine X_aload_n rfl rfl rfl ?_
      refine X_aload_n rfl rfl rfl ?_
      refine X_getI rfl rfl (fun v30 => ?_)
      refine X_iload_n rfl rfl rfl ?_
      refine X_iadd rfl rfl ?_
      refine X_callV_IR (M' := M_X5_byteAt) (nA := 1) (As := [.int (v30 + l2)]) (st := []) (b := l0) (ci := 5) rfl rfl (by decide +kernel) rfl rfl rfl rfl rfl rfl rfl rfl (fun _ e => ct_X5_byteAt e) (fun v35 => ?_)
      refine X_aload_n rfl rfl rfl ?_
      refine X_iload_n rfl rfl rfl ?_
      refine X_sch rfl rfl (by decide +kernel) rfl rfl rfl (fun v40 => ?_)
      refine X_bicmp_eq rfl rfl (fun _ => ?_) (fun _ => ?_)
      · refine X_iinc (v := l2 + 1) rfl rfl rfl (congrArg (fun z => l2 + z) (by decide : Int32.ofInt 1 = 1)) rfl ?_
        refine X_goto rfl rfl ?_
        exact X_sub (g_sub_s (g_sub_s (g_sub_s g_sub_0))) (ih _ _ _)
      · refine X_iconst (v := 0) rfl rfl (by decide) ?_
        exact X_iret rfl rfl rfl rfl rfl rfl rfl
    · refine X_iconst (v := 1) rfl rfl (by decide) ?_
      exact X_iret rfl rfl rfl rfl rfl rfl rfl
set_option maxRecDepth 100000 in
theorem ct_X5_isToken {l : Launch} {G : gG} {h : gH} {a0 : Nat} {p1 : Nat} {r : Int32} (e : f_X5_isToken h a0 p1 = some r) : Ct l G M_X5_isToken [.ref a0, .ref (g_aK G p1)] h (some (.int r)) h := by
  refine Ct_of (L := [some (.ref a0), some (.ref (g_aK G p1)), none]) ok_X5_isToken (by decide +kernel) rfl rfl rfl (ρ := (g_rI h)) (F := f_X5_isToken h a0 p1) ?_ e rfl
  unfold f_X5_isToken
  refine X_aload_n rfl rfl rfl ?_
  refine X_getI rfl rfl (fun v1 => ?_)
  refine X_aload_n rfl rfl rfl ?_
  refine X_getI rfl rfl (fun v5 => ?_)
  refine X_isub rfl rfl ?_
  refine X_aload_n rfl rfl rfl ?_
  refine X_slen rfl rfl (by decide +kernel) rfl rfl rfl (fun v10 => ?_)
  refine X_bicmp_eq rfl rfl (fun _ => ?_) (fun _ => ?_)
  · refine X_iconst (v := 0) rfl rfl (by decide) ?_
    refine X_istore_n rfl rfl rfl rfl ?_
    exact X_sub (g_sub_s (g_sub_s (g_sub_s g_sub_0))) (b_X5_isToken_b20  _ _ _ _)
  · refine X_iconst (v := 0) rfl rfl (by decide) ?_
    exact X_iret rfl rfl rfl rfl rfl rfl rfl
def f_X5_isError (h : gH) (a0 : Nat) (p1 : Int32) : Option (Int32 × gH) :=
  (g_put h a0 5 5 (.int p1)).bind fun h2 =>
  (g_gI h2 a0 5 3).bind fun v7 =>
  (g_put h2 a0 5 6 (.int v7)).bind fun h10 =>
  some (0, h10)
set_option maxRecDepth 100000 in
theorem ct_X5_isError {l : Launch} {G : gG} {h : gH} {a0 : Nat} {p1 : Int32} {r : Int32} {h1 : gH} (e : f_X5_isError h a0 p1 = some (r, h1)) : Ct l G M_X5_isError [.ref a0, .int p1] h (some (.int r)) h1 := by
  refine Ct_of (L := [some (.ref a0), some (.int p1)]) ok_X5_isError (by decide +kernel) rfl rfl rfl (ρ := g_wI) (F := f_X5_isError h a0 p1) ?_ e rfl
  unfold f_X5_isError
  refine X_aload_n rfl rfl rfl ?_
  refine X_iload_n rfl rfl rfl ?_
  refine X_put rfl rfl rfl rfl rfl (fun h2 => ?_)
  refine X_aload_n rfl rfl rfl ?_
  refine X_aload_n rfl rfl rfl ?_
  refine X_getI rfl rfl (fun v7 => ?_)
  refine X_put rfl rfl rfl rfl rfl (fun h10 => ?_)
  refine X_iconst (v := 0) rfl rfl (by decide) ?_
  exact X_iret rfl rfl rfl rfl rfl rfl rfl
def f_X5_readNumber_b71 (h : gH) (l0 : Nat) (l1 : Int32) (l2 : Int32) (l3 : Int32) : Option (Int32 × gH) :=
  (g_gI h l0 5 2).bind fun v72 =>
  (g_gI h l0 5 3).bind fun v76 =>
  (if v72 = v76 then
    bif g_is h l0 5 then
    (f_X5_isError h l0 (-2)).bind fun y85 =>
    some (-1, y85.2)
    else none
  else
    (if (f_X7_isWithin l3 l1 l2) = 0 then
      bif g_is h l0 5 then
      (f_X5_isError h l0 (-3)).bind fun y103 =>
      some (-1, y103.2)
      else none
    else
      some (l3, h)))
def f_X5_readNumber_b7 : Nat → gH → Nat → Int32 → Int32 → Int32 → Option (Int32 × gH)
  | 0, _, _, _, _, _ => none
  | n + 1, h, l0, l1, l2, l3 =>
    (g_gI h l0 5 2).bind fun v8 =>
    (g_gI h l0 5 1).bind fun v12 =>
    (if v8 < v12 then
      (g_gI h l0 5 2).bind fun v20 =>
      bif g_is h l0 5 then
      (f_X5_byteAt h l0 v20).bind fun v23 =>
      (if (f_X7_isWithin v23 48 57) = 0 then
        f_X5_readNumber_b71 h l0 l1 l2 l3
      else
        (g_gI h l0 5 2).bind fun v42 =>
        bif g_is h l0 5 then
        (f_X5_byteAt h l0 v42).bind fun v45 =>
        (g_gI h l0 5 2).bind fun v60 =>
        (g_put h l0 5 2 (.int (v60 + 1))).bind fun h65 =>
        f_X5_readNumber_b7  n h65 l0 l1 l2 (g_min (((10 * l3) + v45) - 48) 1000000)
        else none)
      else none
    else
      f_X5_readNumber_b71 h l0 l1 l2 l3)
def f_X5_readNumber (h : gH) (a0 : Nat) (p1 : Int32) (p2 : Int32) : Option (Int32 × gH) :=
  bif g_is h a0 5 then
  (f_X5_findToken h a0).bind fun y1 =>
  f_X5_readNumber_b7 g_N y1.2 a0 p1 p2 0
  else none
set_option maxRecDepth 100000 in
theorem b_X5_readNumber_b71 {l : Launch} {G : gG} (h : gH) (l0 : Nat) (l1 : Int32) (l2 : Int32) (l3 : Int32) : GX l G M_X5_readNumber (g_phi G g_wI (m_R M_X5_readNumber).cells (m_R M_X5_readNumber).slots) 0 0 71 [some (.ref l0), some (.int l1), some (.int l2), some (.int l3)] [] h (f_X5_readNumber_b71 h l0 l1 l2 l3) := by
  unfold f_X5_readNumber_b71
  refine X_aload_n rfl rfl rfl ?_
  refine X_getI rfl rfl (fun v72 => ?_)
  refine X_aload_n rfl rfl rfl ?_
  refine X_getI rfl rfl (fun v76 => ?_)
  refine X_bicmp_ne rfl rfl (fun _ => ?_) (fun _ => ?_)
  · refine X_aload_n rfl rfl rfl ?_
    refine X_bipush (v := -2) rfl rfl (by decide) ?_
    refine X_callV_IW (M' := M_X5_isError) (nA := 1) (As := [.int (-2)]) (st := []) (b := l0) (ci := 5) rfl rfl (by decide +kernel) rfl rfl rfl rfl rfl rfl rfl rfl (fun _ _ e => ct_X5_isError e) (fun y85 => ?_)
    refine X_pop rfl rfl rfl ?_
    refine X_iconst (v := -1) rfl rfl (by decide) ?_
    exact X_iret rfl rfl rfl rfl rfl rfl rfl
  · refine X_iload_n rfl rfl rfl ?_
    refine X_iload_n rfl rfl rfl ?_
    refine X_iload_n rfl rfl rfl ?_
    refine X_callSN_IP (v := f_X7_isWithin l3 l1 l2) (M' := M_X7_isWithin) (nA := 3) (As := [.int l3, .int l1, .int l2]) (st := []) rfl rfl (by decide +kernel) rfl rfl rfl rfl rfl rfl rfl ct_X7_isWithin ?_
    refine X_bif_ne rfl rfl (fun _ => ?_) (fun _ => ?_)
    · refine X_aload_n rfl rfl rfl ?_
      refine X_bipush (v := -3) rfl rfl (by decide) ?_
      refine X_callV_IW (M' := M_X5_isError) (nA := 1) (As := [.int (-3)]) (st := []) (b := l0) (ci := 5) rfl rfl (by decide +kernel) rfl rfl rfl rfl rfl rfl rfl rfl (fun _ _ e => ct_X5_isError e) (fun y103 => ?_)
      refine X_pop rfl rfl rfl ?_
      refine X_iconst (v := -1) rfl rfl (by decide) ?_
      exact X_iret rfl rfl rfl rfl rfl rfl rfl
    · refine X_iload_n rfl rfl rfl ?_
      exact X_iret rfl rfl rfl rfl rfl rfl rfl
set_option maxRecDepth 100000 in
theorem b_X5_readNumber_b7 {l : Launch} {G : gG} : ∀ (n : Nat) (h : gH) (l0 : Nat) (l1 : Int32) (l2 : Int32) (l3 : Int32), GX l G M_X5_readNumber (g_phi G g_wI (m_R M_X5_readNumber).cells (m_R M_X5_readNumber).slots) 0 0 7 [some (.ref l0), some (.int l1), some (.int l2), some (.int l3)] [] h (f_X5_readNumber_b7 n h l0 l1 l2 l3) := by
  intro n
  induction n with
  | zero => intros; exact X_none
  | succ n ih =>
    intro h l0 l1 l2 l3
    rw [f_X5_readNumber_b7]
    refine X_aload_n rfl rfl rfl ?_
    refine X_getI rfl rfl (fun v8 => ?_)
    refine X_aload_n rfl rfl rfl ?_
    refine X_getI rfl rfl (fun v12 => ?_)
    refine X_bicmp_ge rfl rfl (fun _ => ?_) (fun _ => ?_)
    · refine X_aload_n rfl rfl rfl ?_
      refine X_aload_n rfl rfl rfl ?_
      refine X_getI rfl rfl (fun v20 => ?_)
      refine X_callV_IR (M' := M_X5_byteAt) (nA := 1) (As := [.int v20]) (st := []) (b := l0) (ci := 5) rfl rfl (by decide +kernel) rfl rfl rfl rfl rfl rfl rfl rfl (fun _ e => ct_X5_byteAt e) (fun v23 => ?_)
      refine X_bipush (v := 48) rfl rfl (by decide) ?_
      refine X_bipush (v := 57) rfl rfl (by decide) ?_
      refine X_callSN_IP (v := f_X7_isWithin v23 48 57) (M' := M_X7_isWithin) (nA := 3) (As := [.int v23, .int 48, .int 57]) (st := []) rfl rfl (by decide +kernel) rfl rfl rfl rfl rfl rfl rfl ct_X7_isWithin ?_
      refine X_bif_eq rfl rfl (fun _ => ?_) (fun _ => ?_)
      · exact X_sub (g_sub_s (g_sub_s (g_sub_s (g_sub_s g_sub_0)))) (b_X5_readNumber_b71  _ _ _ _ _)
      · refine X_bipush (v := 10) rfl rfl (by decide) ?_
        refine X_iload_n rfl rfl rfl ?_
        refine X_imul rfl rfl ?_
        refine X_aload_n rfl rfl rfl ?_
        refine X_aload_n rfl rfl rfl ?_
        refine X_getI rfl rfl (fun v42 => ?_)
        refine X_callV_IR (M' := M_X5_byteAt) (nA := 1) (As := [.int v42]) (st := [.int (10 * l3)]) (b := l0) (ci := 5) rfl rfl (by decide +kernel) rfl rfl rfl rfl rfl rfl rfl rfl (fun _ e => ct_X5_byteAt e) (fun v45 => ?_)
        refine X_iadd rfl rfl ?_
        refine X_bipush (v := 48) rfl rfl (by decide) ?_
        refine X_isub rfl rfl ?_
        refine X_ldc (v := 1000000) rfl rfl (by decide +kernel) ?_
        refine X_mmin rfl rfl (by decide +kernel) (by decide +kernel) (by decide +kernel) (by decide +kernel) rfl rfl rfl rfl ?_
        refine X_istore_n rfl rfl rfl rfl ?_
        refine X_aload_n rfl rfl rfl ?_
        refine X_dup rfl rfl rfl ?_
        refine X_getI rfl rfl (fun v60 => ?_)
        refine X_iconst (v := 1) rfl rfl (by decide) ?_
        refine X_iadd rfl rfl ?_
        refine X_put rfl rfl rfl rfl rfl (fun h65 => ?_)
        refine X_goto rfl rfl ?_
        exact X_sub (g_sub_s (g_sub_s (g_sub_s (g_sub_s g_sub_0)))) (ih _ _ _ _ _)
    · exact X_sub (g_sub_s (g_sub_s (g_sub_s (g_sub_s g_sub_0)))) (b_X5_readNumber_b71  _ _ _ _ _)
set_option maxRecDepth 100000 in
theorem ct_X5_readNumber {l : Launch} {G : gG} {h : gH} {a0 : Nat} {p1 : Int32} {p2 : Int32} {r : Int32} {h1 : gH} (e : f_X5_readNumber h a0 p1 p2 = some (r, h1)) : Ct l G M_X5_readNumber [.ref a0, .int p1, .int p2] h (some (.int r)) h1 := by
  refine Ct_of (L := [some (.ref a0), some (.int p1), some (.int p2), none]) ok_X5_readNumber (by decide +kernel) rfl rfl rfl (ρ := g_wI) (F := f_X5_readNumber h a0 p1 p2) ?_ e rfl
  unfold f_X5_readNumber
  refine X_aload_n rfl rfl rfl ?_
  refine X_callV_IW (M' := M_X5_findToken) (nA := 0) (As := []) (st := []) (b := a0) (ci := 5) rfl rfl (by decide +kernel) rfl rfl rfl rfl rfl rfl rfl rfl (fun _ _ e => ct_X5_findToken e) (fun y1 => ?_)
  refine X_pop rfl rfl rfl ?_
  refine X_iconst (v := 0) rfl rfl (by decide) ?_
  refine X_istore_n rfl rfl rfl rfl ?_
  exact X_sub (g_sub_s (g_sub_s (g_sub_s (g_sub_s g_sub_0)))) (b_X5_readNumber_b7  _ _ _ _ _ _)
def f_X5_readSemicolon_b20 (h : gH) (l0 : Nat) : Option (Int32 × gH) :=
  bif g_is h l0 5 then
  (f_X5_isError h l0 (-2)).bind fun y23 =>
  (g_z y23.1).bind fun z => some (y23.1, y23.2)
  else none
def f_X5_readSemicolon (h : gH) (a0 : Nat) : Option (Int32 × gH) :=
  bif g_is h a0 5 then
  (f_X5_findToken h a0).bind fun y1 =>
  (if y1.1 = 0 then
    f_X5_readSemicolon_b20 y1.2 a0
  else
    (g_gI y1.2 a0 5 2).bind fun v9 =>
    bif g_is y1.2 a0 5 then
    (f_X5_byteAt y1.2 a0 v9).bind fun v12 =>
    (if v12 = 59 then
      (g_gI y1.2 a0 5 2).bind fun v29 =>
      (g_put y1.2 a0 5 2 (.int (v29 + 1))).bind fun h34 =>
      some (1, h34)
    else
      f_X5_readSemicolon_b20 y1.2 a0)
    else none)
  else none
set_option maxRecDepth 100000 in
theorem b_X5_readSemicolon_b20 {l : Launch} {G : gG} (h : gH) (l0 : Nat) : GX l G M_X5_readSemicolon (g_phi G g_wI (m_R M_X5_readSemicolon).cells (m_R M_X5_readSemicolon).slots) 0 0 20 [some (.ref l0)] [] h (f_X5_readSemicolon_b20 h l0) := by
  unfold f_X5_readSemicolon_b20
  refine X_aload_n rfl rfl rfl ?_
  refine X_bipush (v := -2) rfl rfl (by decide) ?_
  refine X_callV_IW (M' := M_X5_isError) (nA := 1) (As := [.int (-2)]) (st := []) (b := l0) (ci := 5) rfl rfl (by decide +kernel) rfl rfl rfl rfl rfl rfl rfl rfl (fun _ _ e => ct_X5_isError e) (fun y23 => ?_)
  exact X_zret rfl rfl rfl ⟨_, rfl, rfl⟩ rfl rfl
set_option maxRecDepth 100000 in
theorem ct_X5_readSemicolon {l : Launch} {G : gG} {h : gH} {a0 : Nat} {r : Int32} {h1 : gH} (e : f_X5_readSemicolon h a0 = some (r, h1)) : Ct l G M_X5_readSemicolon [.ref a0] h (some (.int r)) h1 := by
  refine Ct_of (L := [some (.ref a0)]) ok_X5_readSemicolon (by decide +kernel) rfl rfl rfl (ρ := g_wI) (F := f_X5_readSemicolon h a0) ?_ e rfl
  unfold f_X5_readSemicolon
  refine X_aload_n rfl rfl rfl ?_
  refine X_callV_IW (M' := M_X5_findToken) (nA := 0) (As := []) (st := []) (b := a0) (ci := 5) rfl rfl (by decide +kernel) rfl rfl rfl rfl rfl rfl rfl rfl (fun _ _ e => ct_X5_findToken e) (fun y1 => ?_)
  refine X_bif_eq rfl rfl (fun _ => ?_) (fun _ => ?_)
  · exact X_sub (g_sub_s g_sub_0) (b_X5_readSemicolon_b20  _ _)
  · refine X_aload_n rfl rfl rfl ?_
    refine X_aload_n rfl rfl rfl ?_
    refine X_getI rfl rfl (fun v9 => ?_)
    refine X_callV_IR (M' := M_X5_byteAt) (nA := 1) (As := [.int v9]) (st := []) (b := a0) (ci := 5) rfl rfl (by decide +kernel) rfl rfl rfl rfl rfl rfl rfl rfl (fun _ e => ct_X5_byteAt e) (fun v12 => ?_)
    refine X_bipush (v := 59) rfl rfl (by decide) ?_
    refine X_bicmp_eq rfl rfl (fun _ => ?_) (fun _ => ?_)
    · refine X_aload_n rfl rfl rfl ?_
      refine X_dup rfl rfl rfl ?_
      refine X_getI rfl rfl (fun v29 => ?_)
      refine X_iconst (v := 1) rfl rfl (by decide) ?_
      refine X_iadd rfl rfl ?_
      refine X_put rfl rfl rfl rfl rfl (fun h34 => ?_)
      refine X_iconst (v := 1) rfl rfl (by decide) ?_
      exact X_iret rfl rfl rfl rfl rfl rfl rfl
    · exact X_sub (g_sub_s g_sub_0) (b_X5_readSemicolon_b20  _ _)
def f_X5_readRelay (h : gH) (a0 : Nat) (p1 : Nat) : Option (Int32 × gH) :=
  bif g_is h a0 5 then
  (f_X5_readWord h a0).bind fun h1 =>
  bif g_is h1 a0 5 then
  (f_X5_isToken h1 a0 0).bind fun v7 =>
  (if v7 = 0 then
    bif g_is h1 a0 5 then
    (f_X5_isError h1 a0 (-2)).bind fun y16 =>
    (g_z y16.1).bind fun z => some (y16.1, y16.2)
    else none
  else
    bif g_is h1 a0 5 then
    (f_X5_readNumber h1 a0 1 8).bind fun y24 =>
    (if y24.1 = (-1) then
      some (0, y24.2)
    else
      bif g_is y24.2 a0 5 then
      (f_X5_readNumber y24.2 a0 1 9).bind fun y39 =>
      (if y39.1 = (-1) then
        some (0, y39.2)
      else
        bif g_is y39.2 p1 6 then
        (f_X6_clear y39.2 p1 y24.1 y39.1).bind fun h53 =>
        bif g_is h53 a0 5 then
        (f_X5_readSemicolon h53 a0).bind fun y57 =>
        (g_z y57.1).bind fun z => some (y57.1, y57.2)
        else none
        else none)
      else none)
    else none)
  else none
  else none
set_option maxRecDepth 100000 in
theorem ct_X5_readRelay {l : Launch} {G : gG} {h : gH} {a0 : Nat} {p1 : Nat} {r : Int32} {h1 : gH} (e : f_X5_readRelay h a0 p1 = some (r, h1)) : Ct l G M_X5_readRelay [.ref a0, .ref p1] h (some (.int r)) h1 := by
  refine Ct_of (L := [some (.ref a0), some (.ref p1), none, none]) ok_X5_readRelay (by decide +kernel) rfl rfl rfl (ρ := g_wI) (F := f_X5_readRelay h a0 p1) ?_ e rfl
  unfold f_X5_readRelay
  refine X_aload_n rfl rfl rfl ?_
  refine X_callV_UW (M' := M_X5_readWord) (nA := 0) (As := []) (st := []) (b := a0) (ci := 5) rfl rfl (by decide +kernel) rfl rfl rfl rfl rfl rfl rfl rfl (fun _ e => ct_X5_readWord e) (fun h1 => ?_)
  refine X_aload_n rfl rfl rfl ?_
  refine X_ldcS (i := 0) (tx := "relay") rfl rfl (by decide +kernel) ?_
  refine X_callV_IR (M' := M_X5_isToken) (nA := 1) (As := [.ref (g_aK G 0)]) (st := []) (b := a0) (ci := 5) rfl rfl (by decide +kernel) rfl rfl rfl rfl rfl rfl rfl rfl (fun _ e => ct_X5_isToken e) (fun v7 => ?_)
  refine X_bif_ne rfl rfl (fun _ => ?_) (fun _ => ?_)
  · refine X_aload_n rfl rfl rfl ?_
    refine X_bipush (v := -2) rfl rfl (by decide) ?_
    refine X_callV_IW (M' := M_X5_isError) (nA := 1) (As := [.int (-2)]) (st := []) (b := a0) (ci := 5) rfl rfl (by decide +kernel) rfl rfl rfl rfl rfl rfl rfl rfl (fun _ _ e => ct_X5_isError e) (fun y16 => ?_)
    exact X_zret rfl rfl rfl ⟨_, rfl, rfl⟩ rfl rfl
  · refine X_aload_n rfl rfl rfl ?_
    refine X_iconst (v := 1) rfl rfl (by decide) ?_
    refine X_bipush (v := 8) rfl rfl (by decide) ?_
    refine X_callV_IW (M' := M_X5_readNumber) (nA := 2) (As := [.int 1, .int 8]) (st := []) (b := a0) (ci := 5) rfl rfl (by decide +kernel) rfl rfl rfl rfl rfl rfl rfl rfl (fun _ _ e => ct_X5_readNumber e) (fun y24 => ?_)
    refine X_istore_n rfl rfl rfl rfl ?_
    refine X_iload_n rfl rfl rfl ?_
    refine X_iconst (v := -1) rfl rfl (by decide) ?_
    refine X_bicmp_ne rfl rfl (fun _ => ?_) (fun _ => ?_)
    · refine X_iconst (v := 0) rfl rfl (by decide) ?_
      exact X_iret rfl rfl rfl rfl rfl rfl rfl
    · refine X_aload_n rfl rfl rfl ?_
      refine X_iconst (v := 1) rfl rfl (by decide) ?_
      refine X_bipush (v := 9) rfl rfl (by decide) ?_
      refine X_callV_IW (M' := M_X5_readNumber) (nA := 2) (As := [.int 1, .int 9]) (st := []) (b := a0) (ci := 5) rfl rfl (by decide +kernel) rfl rfl rfl rfl rfl rfl rfl rfl (fun _ _ e => ct_X5_readNumber e) (fun y39 => ?_)
      refine X_istore_n rfl rfl rfl rfl ?_
      refine X_iload_n rfl rfl rfl ?_
      refine X_iconst (v := -1) rfl rfl (by decide) ?_
      refine X_bicmp_ne rfl rfl (fun _ => ?_) (fun _ => ?_)
      · refine X_iconst (v := 0) rfl rfl (by decide) ?_
        exact X_iret rfl rfl rfl rfl rfl rfl rfl
      · refine X_aload_n rfl rfl rfl ?_
        refine X_iload_n rfl rfl rfl ?_
        refine X_iload_n rfl rfl rfl ?_
        refine X_callV_UW (M' := M_X6_clear) (nA := 2) (As := [.int y24.1, .int y39.1]) (st := []) (b := p1) (ci := 6) rfl rfl (by decide +kernel) rfl rfl rfl rfl rfl rfl rfl rfl (fun _ e => ct_X6_clear e) (fun h53 => ?_)
        refine X_aload_n rfl rfl rfl ?_
        refine X_callV_IW (M' := M_X5_readSemicolon) (nA := 0) (As := []) (st := []) (b := a0) (ci := 5) rfl rfl (by decide +kernel) rfl rfl rfl rfl rfl rfl rfl rfl (fun _ _ e => ct_X5_readSemicolon e) (fun y57 => ?_)
        exact X_zret rfl rfl rfl ⟨_, rfl, rfl⟩ rfl rfl
def f_X5_readChannel (h : gH) (a0 : Nat) (p1 : Nat) : Option (Int32 × gH) :=
  bif g_is h a0 5 then
  (f_X5_readNumber h a0 0 1).bind fun y3 =>
  (if y3.1 = (-1) then
    some (0, y3.2)
  else
    (g_gI y3.2 a0 5 4).bind fun v19 =>
    (if (v19 &&& (1 <<< (y3.1 &&& 31))) = 0 then
      (g_gI y3.2 a0 5 4).bind fun v36 =>
      (g_put y3.2 a0 5 4 (.int (v36 ||| (1 <<< (y3.1 &&& 31))))).bind fun h41 =>
      bif g_is h41 p1 6 then
      (f_X6_channelNumbered h41 p1 y3.1).bind fun v46 =>
      bif g_is h41 a0 5 then
      (f_X5_readNumber h41 a0 0 9).bind fun y57 =>
      (g_put y57.2 v46 0 0 (.int y57.1)).bind fun h60 =>
      (g_gI h60 v46 0 0).bind fun v65 =>
      (if v65 = (-1) then
        some (0, h60)
      else
        bif g_is h60 a0 5 then
        (f_X5_readNumber h60 a0 0 23).bind fun y80 =>
        (g_put y80.2 v46 0 1 (.int y80.1)).bind fun h83 =>
        (g_gI h83 v46 0 1).bind fun v88 =>
        (if v88 = (-1) then
          some (0, h83)
        else
          bif g_is h83 a0 5 then
          (f_X5_readNumber h83 a0 0 23).bind fun y103 =>
          (g_put y103.2 v46 0 2 (.int y103.1)).bind fun h106 =>
          (g_gI h106 v46 0 2).bind fun v111 =>
          (if v111 = (-1) then
            some (0, h106)
          else
            some (1, h106))
          else none)
        else none)
      else none
      else none
    else
      bif g_is y3.2 a0 5 then
      (f_X5_isError y3.2 a0 (-4)).bind fun y30 =>
      (g_z y30.1).bind fun z => some (y30.1, y30.2)
      else none))
  else none
set_option maxRecDepth 100000 in
theorem ct_X5_readChannel {l : Launch} {G : gG} {h : gH} {a0 : Nat} {p1 : Nat} {r : Int32} {h1 : gH} (e : f_X5_readChannel h a0 p1 = some (r, h1)) : Ct l G M_X5_readChannel [.ref a0, .ref p1] h (some (.int r)) h1 := by
  refine Ct_of (L := [some (.ref a0), some (.ref p1), none, none, none]) ok_X5_readChannel (by decide +kernel) rfl rfl rfl (ρ := g_wI) (F := f_X5_readChannel h a0 p1) ?_ e rfl
  unfold f_X5_readChannel
  refine X_aload_n rfl rfl rfl ?_
  refine X_iconst (v := 0) rfl rfl (by decide) ?_
  refine X_iconst (v := 1) rfl rfl (by decide) ?_
  refine X_callV_IW (M' := M_X5_readNumber) (nA := 2) (As := [.int 0, .int 1]) (st := []) (b := a0) (ci := 5) rfl rfl (by decide +kernel) rfl rfl rfl rfl rfl rfl rfl rfl (fun _ _ e => ct_X5_readNumber e) (fun y3 => ?_)
  refine X_istore_n rfl rfl rfl rfl ?_
  refine X_iload_n rfl rfl rfl ?_
  refine X_iconst (v := -1) rfl rfl (by decide) ?_
  refine X_bicmp_ne rfl rfl (fun _ => ?_) (fun _ => ?_)
  · refine X_iconst (v := 0) rfl rfl (by decide) ?_
    exact X_iret rfl rfl rfl rfl rfl rfl rfl
  · refine X_iconst (v := 1) rfl rfl (by decide) ?_
    refine X_iload_n rfl rfl rfl ?_
    refine X_ishl rfl rfl rfl ?_
    refine X_istore_n rfl rfl rfl rfl ?_
    refine X_aload_n rfl rfl rfl ?_
    refine X_getI rfl rfl (fun v19 => ?_)
    refine X_iload_n rfl rfl rfl ?_
    refine X_iand rfl rfl ?_
    refine X_bif_eq rfl rfl (fun _ => ?_) (fun _ => ?_)
    · refine X_aload_n rfl rfl rfl ?_
      refine X_dup rfl rfl rfl ?_
      refine X_getI rfl rfl (fun v36 => ?_)
      refine X_iload_n rfl rfl rfl ?_
      refine X_ior rfl rfl ?_
      refine X_put rfl rfl rfl rfl rfl (fun h41 => ?_)
      refine X_aload_n rfl rfl rfl ?_
      refine X_iload_n rfl rfl rfl ?_
      refine X_callV_AR (M' := M_X6_channelNumbered) (nA := 1) (As := [.int y3.1]) (st := []) (b := p1) (ci := 6) rfl rfl (by decide +kernel) rfl rfl rfl rfl rfl rfl rfl rfl (fun _ e => ct_X6_channelNumbered e) (fun v46 => ?_)
      refine X_astore rfl rfl rfl rfl ?_
      refine X_aload rfl rfl rfl ?_
      refine X_aload_n rfl rfl rfl ?_
      refine X_iconst (v := 0) rfl rfl (by decide) ?_
      refine X_bipush (v := 9) rfl rfl (by decide) ?_
      refine X_callV_IW (M' := M_X5_readNumber) (nA := 2) (As := [.int 0, .int 9]) (st := [.ref v46]) (b := a0) (ci := 5) rfl rfl (by decide +kernel) rfl rfl rfl rfl rfl rfl rfl rfl (fun _ _ e => ct_X5_readNumber e) (fun y57 => ?_)
      refine X_put rfl rfl rfl rfl rfl (fun h60 => ?_)
      refine X_aload rfl rfl rfl ?_
      refine X_getI rfl rfl (fun v65 => ?_)
      refine X_iconst (v := -1) rfl rfl (by decide) ?_
      refine X_bicmp_ne rfl rfl (fun _ => ?_) (fun _ => ?_)
      · refine X_iconst (v := 0) rfl rfl (by decide) ?_
        exact X_iret rfl rfl rfl rfl rfl rfl rfl
      · refine X_aload rfl rfl rfl ?_
        refine X_aload_n rfl rfl rfl ?_
        refine X_iconst (v := 0) rfl rfl (by decide) ?_
        refine X_bipush (v := 23) rfl rfl (by decide) ?_
        refine X_callV_IW (M' := M_X5_readNumber) (nA := 2) (As := [.int 0, .int 23]) (st := [.ref v46]) (b := a0) (ci := 5) rfl rfl (by decide +kernel) rfl rfl rfl rfl rfl rfl rfl rfl (fun _ _ e => ct_X5_readNumber e) (fun y80 => ?_)
        refine X_put rfl rfl rfl rfl rfl (fun h83 => ?_)
        refine X_aload rfl rfl rfl ?_
        refine X_getI rfl rfl (fun v88 => ?_)
        refine X_iconst (v := -1) rfl rfl (by decide) ?_
        refine X_bicmp_ne rfl rfl (fun _ => ?_) (fun _ => ?_)
        · refine X_iconst (v := 0) rfl rfl (by decide) ?_
          exact X_iret rfl rfl rfl rfl rfl rfl rfl
        · refine X_aload rfl rfl rfl ?_
          refine X_aload_n rfl rfl rfl ?_
          refine X_iconst (v := 0) rfl rfl (by decide) ?_
          refine X_bipush (v := 23) rfl rfl (by decide) ?_
          refine X_callV_IW (M' := M_X5_readNumber) (nA := 2) (As := [.int 0, .int 23]) (st := [.ref v46]) (b := a0) (ci := 5) rfl rfl (by decide +kernel) rfl rfl rfl rfl rfl rfl rfl rfl (fun _ _ e => ct_X5_readNumber e) (fun y103 => ?_)
          refine X_put rfl rfl rfl rfl rfl (fun h106 => ?_)
          refine X_aload rfl rfl rfl ?_
          refine X_getI rfl rfl (fun v111 => ?_)
          refine X_iconst (v := -1) rfl rfl (by decide) ?_
          refine X_bicmp_eq rfl rfl (fun _ => ?_) (fun _ => ?_)
          · refine X_iconst (v := 0) rfl rfl (by decide) ?_
            exact X_iret rfl rfl rfl rfl rfl rfl rfl
          · refine X_iconst (v := 1) rfl rfl (by decide) ?_
            refine X_goto rfl rfl ?_
            exact X_iret rfl rfl rfl rfl rfl rfl rfl
    · refine X_aload_n rfl rfl rfl ?_
      refine X_bipush (v := -4) rfl rfl (by decide) ?_
      refine X_callV_IW (M' := M_X5_isError) (nA := 1) (As := [.int (-4)]) (st := []) (b := a0) (ci := 5) rfl rfl (by decide +kernel) rfl rfl rfl rfl rfl rfl rfl rfl (fun _ _ e => ct_X5_isError e) (fun y30 => ?_)
      exact X_zret rfl rfl rfl ⟨_, rfl, rfl⟩ rfl rfl
def f_X5_readKeeper (h : gH) (a0 : Nat) (p1 : Nat) : Option (Int32 × gH) :=
  bif g_is h a0 5 then
  (f_X5_readNumber h a0 0 1).bind fun y3 =>
  (if y3.1 = (-1) then
    some (0, y3.2)
  else
    bif g_is y3.2 p1 6 then
    (f_X6_keepersOf y3.2 p1 y3.1).bind fun v16 =>
    bif g_is y3.2 v16 2 then
    (f_X2_isFull y3.2 v16).bind fun v21 =>
    (if v21 = 0 then
      bif g_is y3.2 a0 5 then
      (f_X5_readNumber y3.2 a0 0 9999).bind fun y39 =>
      (if y39.1 = (-1) then
        some (0, y39.2)
      else
        bif g_is y39.2 v16 2 then
        (f_X2_hasOneAt y39.2 v16 y39.1).bind fun v55 =>
        (if v55 = 0 then
          bif g_is y39.2 a0 5 then
          (f_X5_readNumber y39.2 a0 0 25).bind fun y72 =>
          (if y72.1 = (-1) then
            some (0, y72.2)
          else
            bif g_is y72.2 v16 2 then
            (f_X2_come y72.2 v16 y39.1 y72.1).bind fun h90 =>
            some (1, h90)
            else none)
          else none
        else
          bif g_is y39.2 a0 5 then
          (f_X5_isError y39.2 a0 (-4)).bind fun y64 =>
          (g_z y64.1).bind fun z => some (y64.1, y64.2)
          else none)
        else none)
      else none
    else
      bif g_is y3.2 a0 5 then
      (f_X5_isError y3.2 a0 (-5)).bind fun y30 =>
      (g_z y30.1).bind fun z => some (y30.1, y30.2)
      else none)
    else none
    else none)
  else none
set_option maxRecDepth 100000 in
theorem ct_X5_readKeeper {l : Launch} {G : gG} {h : gH} {a0 : Nat} {p1 : Nat} {r : Int32} {h1 : gH} (e : f_X5_readKeeper h a0 p1 = some (r, h1)) : Ct l G M_X5_readKeeper [.ref a0, .ref p1] h (some (.int r)) h1 := by
  refine Ct_of (L := [some (.ref a0), some (.ref p1), none, none, none, none]) ok_X5_readKeeper (by decide +kernel) rfl rfl rfl (ρ := g_wI) (F := f_X5_readKeeper h a0 p1) ?_ e rfl
  unfold f_X5_readKeeper
  refine X_aload_n rfl rfl rfl ?_
  refine X_iconst (v := 0) rfl rfl (by decide) ?_
  refine X_iconst (v := 1) rfl rfl (by decide) ?_
  refine X_callV_IW (M' := M_X5_readNumber) (nA := 2) (As := [.int 0, .int 1]) (st := []) (b := a0) (ci := 5) rfl rfl (by decide +kernel) rfl rfl rfl rfl rfl rfl rfl rfl (fun _ _ e => ct_X5_readNumber e) (fun y3 => ?_)
  refine X_istore_n rfl rfl rfl rfl ?_
  refine X_iload_n rfl rfl rfl ?_
  refine X_iconst (v := -1) rfl rfl (by decide) ?_
  refine X_bicmp_ne rfl rfl (fun _ => ?_) (fun _ => ?_)
  · refine X_iconst (v := 0) rfl rfl (by decide) ?_
    exact X_iret rfl rfl rfl rfl rfl rfl rfl
  · refine X_aload_n rfl rfl rfl ?_
    refine X_iload_n rfl rfl rfl ?_
    refine X_callV_AR (M' := M_X6_keepersOf) (nA := 1) (As := [.int y3.1]) (st := []) (b := p1) (ci := 6) rfl rfl (by decide +kernel) rfl rfl rfl rfl rfl rfl rfl rfl (fun _ e => ct_X6_keepersOf e) (fun v16 => ?_)
    refine X_astore_n rfl rfl rfl rfl ?_
    refine X_aload_n rfl rfl rfl ?_
    refine X_callV_IR (M' := M_X2_isFull) (nA := 0) (As := []) (st := []) (b := v16) (ci := 2) rfl rfl (by decide +kernel) rfl rfl rfl rfl rfl rfl rfl rfl (fun _ e => ct_X2_isFull e) (fun v21 => ?_)
    refine X_bif_eq rfl rfl (fun _ => ?_) (fun _ => ?_)
    · refine X_aload_n rfl rfl rfl ?_
      refine X_iconst (v := 0) rfl rfl (by decide) ?_
      refine X_sipush (v := 9999) rfl rfl (by decide) ?_
      refine X_callV_IW (M' := M_X5_readNumber) (nA := 2) (As := [.int 0, .int 9999]) (st := []) (b := a0) (ci := 5) rfl rfl (by decide +kernel) rfl rfl rfl rfl rfl rfl rfl rfl (fun _ _ e => ct_X5_readNumber e) (fun y39 => ?_)
      refine X_istore rfl rfl rfl rfl ?_
      refine X_iload rfl rfl rfl ?_
      refine X_iconst (v := -1) rfl rfl (by decide) ?_
      refine X_bicmp_ne rfl rfl (fun _ => ?_) (fun _ => ?_)
      · refine X_iconst (v := 0) rfl rfl (by decide) ?_
        exact X_iret rfl rfl rfl rfl rfl rfl rfl
      · refine X_aload_n rfl rfl rfl ?_
        refine X_iload rfl rfl rfl ?_
        refine X_callV_IR (M' := M_X2_hasOneAt) (nA := 1) (As := [.int y39.1]) (st := []) (b := v16) (ci := 2) rfl rfl (by decide +kernel) rfl rfl rfl rfl rfl rfl rfl rfl (fun _ e => ct_X2_hasOneAt e) (fun v55 => ?_)
        refine X_bif_eq rfl rfl (fun _ => ?_) (fun _ => ?_)
        · refine X_aload_n rfl rfl rfl ?_
          refine X_iconst (v := 0) rfl rfl (by decide) ?_
          refine X_bipush (v := 25) rfl rfl (by decide) ?_
          refine X_callV_IW (M' := M_X5_readNumber) (nA := 2) (As := [.int 0, .int 25]) (st := []) (b := a0) (ci := 5) rfl rfl (by decide +kernel) rfl rfl rfl rfl rfl rfl rfl rfl (fun _ _ e => ct_X5_readNumber e) (fun y72 => ?_)
          refine X_istore rfl rfl rfl rfl ?_
          refine X_iload rfl rfl rfl ?_
          refine X_iconst (v := -1) rfl rfl (by decide) ?_
          refine X_bicmp_ne rfl rfl (fun _ => ?_) (fun _ => ?_)
          · refine X_iconst (v := 0) rfl rfl (by decide) ?_
            exact X_iret rfl rfl rfl rfl rfl rfl rfl
          · refine X_aload_n rfl rfl rfl ?_
            refine X_iload rfl rfl rfl ?_
            refine X_iload rfl rfl rfl ?_
            refine X_callV_UW (M' := M_X2_come) (nA := 2) (As := [.int y39.1, .int y72.1]) (st := []) (b := v16) (ci := 2) rfl rfl (by decide +kernel) rfl rfl rfl rfl rfl rfl rfl rfl (fun _ e => ct_X2_come e) (fun h90 => ?_)
            refine X_iconst (v := 1) rfl rfl (by decide) ?_
            exact X_iret rfl rfl rfl rfl rfl rfl rfl
        · refine X_aload_n rfl rfl rfl ?_
          refine X_bipush (v := -4) rfl rfl (by decide) ?_
          refine X_callV_IW (M' := M_X5_isError) (nA := 1) (As := [.int (-4)]) (st := []) (b := a0) (ci := 5) rfl rfl (by decide +kernel) rfl rfl rfl rfl rfl rfl rfl rfl (fun _ _ e => ct_X5_isError e) (fun y64 => ?_)
          exact X_zret rfl rfl rfl ⟨_, rfl, rfl⟩ rfl rfl
    · refine X_aload_n rfl rfl rfl ?_
      refine X_bipush (v := -5) rfl rfl (by decide) ?_
      refine X_callV_IW (M' := M_X5_isError) (nA := 1) (As := [.int (-5)]) (st := []) (b := a0) (ci := 5) rfl rfl (by decide +kernel) rfl rfl rfl rfl rfl rfl rfl rfl (fun _ _ e => ct_X5_isError e) (fun y30 => ?_)
      exact X_zret rfl rfl rfl ⟨_, rfl, rfl⟩ rfl rfl
def f_X5_readMist (h : gH) (a0 : Nat) (p1 : Nat) : Option (Int32 × gH) :=
  (g_gA h p1 6 15).bind fun v1 =>
  bif g_is h v1 4 then
  (f_X4_isFull h v1).bind fun v4 =>
  (if v4 = 0 then
    bif g_is h a0 5 then
    (f_X5_readNumber h a0 0 9999).bind fun y22 =>
    (if y22.1 = (-1) then
      some (0, y22.2)
    else
      bif g_is y22.2 a0 5 then
      (f_X5_readNumber y22.2 a0 y22.1 9999).bind fun y38 =>
      (if y38.1 = (-1) then
        some (0, y38.2)
      else
        bif g_is y38.2 a0 5 then
        (f_X5_readNumber y38.2 a0 0 9).bind fun y53 =>
        (if y53.1 = (-1) then
          some (0, y53.2)
        else
          (g_gA y53.2 p1 6 15).bind fun v67 =>
          bif g_is y53.2 v67 4 then
          (f_X4_add y53.2 v67 y22.1 y38.1 y53.1).bind fun h74 =>
          some (1, h74)
          else none)
        else none)
      else none)
    else none
  else
    bif g_is h a0 5 then
    (f_X5_isError h a0 (-5)).bind fun y13 =>
    (g_z y13.1).bind fun z => some (y13.1, y13.2)
    else none)
  else none
set_option maxRecDepth 100000 in
theorem ct_X5_readMist {l : Launch} {G : gG} {h : gH} {a0 : Nat} {p1 : Nat} {r : Int32} {h1 : gH} (e : f_X5_readMist h a0 p1 = some (r, h1)) : Ct l G M_X5_readMist [.ref a0, .ref p1] h (some (.int r)) h1 := by
  refine Ct_of (L := [some (.ref a0), some (.ref p1), none, none, none]) ok_X5_readMist (by decide +kernel) rfl rfl rfl (ρ := g_wI) (F := f_X5_readMist h a0 p1) ?_ e rfl
  unfold f_X5_readMist
  refine X_aload_n rfl rfl rfl ?_
  refine X_getA rfl rfl (fun v1 => ?_)
  refine X_callV_IR (M' := M_X4_isFull) (nA := 0) (As := []) (st := []) (b := v1) (ci := 4) rfl rfl (by decide +kernel) rfl rfl rfl rfl rfl rfl rfl rfl (fun _ e => ct_X4_isFull e) (fun v4 => ?_)
  refine X_bif_eq rfl rfl (fun _ => ?_) (fun _ => ?_)
  · refine X_aload_n rfl rfl rfl ?_
    refine X_iconst (v := 0) rfl rfl (by decide) ?_
    refine X_sipush (v := 9999) rfl rfl (by decide) ?_
    refine X_callV_IW (M' := M_X5_readNumber) (nA := 2) (As := [.int 0, .int 9999]) (st := []) (b := a0) (ci := 5) rfl rfl (by decide +kernel) rfl rfl rfl rfl rfl rfl rfl rfl (fun _ _ e => ct_X5_readNumber e) (fun y22 => ?_)
    refine X_istore_n rfl rfl rfl rfl ?_
    refine X_iload_n rfl rfl rfl ?_
    refine X_iconst (v := -1) rfl rfl (by decide) ?_
    refine X_bicmp_ne rfl rfl (fun _ => ?_) (fun _ => ?_)
    · refine X_iconst (v := 0) rfl rfl (by decide) ?_
      exact X_iret rfl rfl rfl rfl rfl rfl rfl
    · refine X_aload_n rfl rfl rfl ?_
      refine X_iload_n rfl rfl rfl ?_
      refine X_sipush (v := 9999) rfl rfl (by decide) ?_
      refine X_callV_IW (M' := M_X5_readNumber) (nA := 2) (As := [.int y22.1, .int 9999]) (st := []) (b := a0) (ci := 5) rfl rfl (by decide +kernel) rfl rfl rfl rfl rfl rfl rfl rfl (fun _ _ e => ct_X5_readNumber e) (fun y38 => ?_)
      refine X_istore_n rfl rfl rfl rfl ?_
      refine X_iload_n rfl rfl rfl ?_
      refine X_iconst (v := -1) rfl rfl (by decide) ?_
      refine X_bicmp_ne rfl rfl (fun _ => ?_) (fun _ => ?_)
      · refine X_iconst (v := 0) rfl rfl (by decide) ?_
        exact X_iret rfl rfl rfl rfl rfl rfl rfl
      · refine X_aload_n rfl rfl rfl ?_
        refine X_iconst (v := 0) rfl rfl (by decide) ?_
        refine X_bipush (v := 9) rfl rfl (by decide) ?_
        refine X_callV_IW (M' := M_X5_readNumber) (nA := 2) (As := [.int 0, .int 9]) (st := []) (b := a0) (ci := 5) rfl rfl (by decide +kernel) rfl rfl rfl rfl rfl rfl rfl rfl (fun _ _ e => ct_X5_readNumber e) (fun y53 => ?_)
        refine X_istore rfl rfl rfl rfl ?_
        refine X_iload rfl rfl rfl ?_
        refine X_iconst (v := -1) rfl rfl (by decide) ?_
        refine X_bicmp_ne rfl rfl (fun _ => ?_) (fun _ => ?_)
        · refine X_iconst (v := 0) rfl rfl (by decide) ?_
          exact X_iret rfl rfl rfl rfl rfl rfl rfl
        · refine X_aload_n rfl rfl rfl ?_
          refine X_getA rfl rfl (fun v67 => ?_)
          refine X_iload_n rfl rfl rfl ?_
          refine X_iload_n rfl rfl rfl ?_
          refine X_iload rfl rfl rfl ?_
          refine X_callV_UW (M' := M_X4_add) (nA := 3) (As := [.int y22.1, .int y38.1, .int y53.1]) (st := []) (b := v67) (ci := 4) rfl rfl (by decide +kernel) rfl rfl rfl rfl rfl rfl rfl rfl (fun _ e => ct_X4_add e) (fun h74 => ?_)
          refine X_iconst (v := 1) rfl rfl (by decide) ?_
          exact X_iret rfl rfl rfl rfl rfl rfl rfl
  · refine X_aload_n rfl rfl rfl ?_
    refine X_bipush (v := -5) rfl rfl (by decide) ?_
    refine X_callV_IW (M' := M_X5_isError) (nA := 1) (As := [.int (-5)]) (st := []) (b := a0) (ci := 5) rfl rfl (by decide +kernel) rfl rfl rfl rfl rfl rfl rfl rfl (fun _ _ e => ct_X5_isError e) (fun y13 => ?_)
    exact X_zret rfl rfl rfl ⟨_, rfl, rfl⟩ rfl rfl
def f_X5_readMessage (h : gH) (a0 : Nat) (p1 : Nat) : Option (Int32 × gH) :=
  (g_gI h p1 6 1).bind fun v1 =>
  (if 8 ≤ v1 then
    bif g_is h a0 5 then
    (f_X5_isError h a0 (-5)).bind fun y12 =>
    (g_z y12.1).bind fun z => some (y12.1, y12.2)
    else none
  else
    bif g_is h a0 5 then
    (f_X5_readNumber h a0 0 1).bind fun y19 =>
    (if y19.1 = (-1) then
      some (0, y19.2)
    else
      bif g_is y19.2 a0 5 then
      (f_X5_readNumber y19.2 a0 0 9).bind fun y34 =>
      (if y34.1 = (-1) then
        some (0, y34.2)
      else
        bif g_is y34.2 a0 5 then
        (f_X5_readWord y34.2 a0).bind fun h46 =>
        (g_gI h46 a0 5 2).bind fun v50 =>
        (g_gI h46 a0 5 3).bind fun v54 =>
        (if v50 = v54 then
          bif g_is h46 a0 5 then
          (f_X5_isError h46 a0 (-2)).bind fun y63 =>
          (g_z y63.1).bind fun z => some (y63.1, y63.2)
          else none
        else
          (g_gI h46 a0 5 2).bind fun v68 =>
          (g_gI h46 a0 5 3).bind fun v72 =>
          (if 24 < (v68 - v72) then
            bif g_is h46 a0 5 then
            (f_X5_isError h46 a0 (-3)).bind fun y84 =>
            (g_z y84.1).bind fun z => some (y84.1, y84.2)
            else none
          else
            (g_gA h46 a0 5 0).bind fun v92 =>
            (g_gI h46 a0 5 3).bind fun v96 =>
            (g_gI h46 a0 5 2).bind fun v100 =>
            (g_gI h46 a0 5 3).bind fun v104 =>
            bif g_is h46 p1 6 then
            (f_X6_addMessage h46 p1 y19.1 y34.1 v92 v96 (v100 - v104)).bind fun h108 =>
            some (1, h108)
            else none))
        else none)
      else none)
    else none)
set_option maxRecDepth 100000 in
theorem ct_X5_readMessage {l : Launch} {G : gG} {h : gH} {a0 : Nat} {p1 : Nat} {r : Int32} {h1 : gH} (e : f_X5_readMessage h a0 p1 = some (r, h1)) : Ct l G M_X5_readMessage [.ref a0, .ref p1] h (some (.int r)) h1 := by
  refine Ct_of (L := [some (.ref a0), some (.ref p1), none, none]) ok_X5_readMessage (by decide +kernel) rfl rfl rfl (ρ := g_wI) (F := f_X5_readMessage h a0 p1) ?_ e rfl
  unfold f_X5_readMessage
  refine X_aload_n rfl rfl rfl ?_
  refine X_getI rfl rfl (fun v1 => ?_)
  refine X_bipush (v := 8) rfl rfl (by decide) ?_
  refine X_bicmp_lt rfl rfl (fun _ => ?_) (fun _ => ?_)
  · refine X_aload_n rfl rfl rfl ?_
    refine X_bipush (v := -5) rfl rfl (by decide) ?_
    refine X_callV_IW (M' := M_X5_isError) (nA := 1) (As := [.int (-5)]) (st := []) (b := a0) (ci := 5) rfl rfl (by decide +kernel) rfl rfl rfl rfl rfl rfl rfl rfl (fun _ _ e => ct_X5_isError e) (fun y12 => ?_)
    exact X_zret rfl rfl rfl ⟨_, rfl, rfl⟩ rfl rfl
  · refine X_aload_n rfl rfl rfl ?_
    refine X_iconst (v := 0) rfl rfl (by decide) ?_
    refine X_iconst (v := 1) rfl rfl (by decide) ?_
    refine X_callV_IW (M' := M_X5_readNumber) (nA := 2) (As := [.int 0, .int 1]) (st := []) (b := a0) (ci := 5) rfl rfl (by decide +kernel) rfl rfl rfl rfl rfl rfl rfl rfl (fun _ _ e => ct_X5_readNumber e) (fun y19 => ?_)
    refine X_istore_n rfl rfl rfl rfl ?_
    refine X_iload_n rfl rfl rfl ?_
    refine X_iconst (v := -1) rfl rfl (by decide) ?_
    refine X_bicmp_ne rfl rfl (fun _ => ?_) (fun _ => ?_)
    · refine X_iconst (v := 0) rfl rfl (by decide) ?_
      exact X_iret rfl rfl rfl rfl rfl rfl rfl
    · refine X_aload_n rfl rfl rfl ?_
      refine X_iconst (v := 0) rfl rfl (by decide) ?_
      refine X_bipush (v := 9) rfl rfl (by decide) ?_
      refine X_callV_IW (M' := M_X5_readNumber) (nA := 2) (As := [.int 0, .int 9]) (st := []) (b := a0) (ci := 5) rfl rfl (by decide +kernel) rfl rfl rfl rfl rfl rfl rfl rfl (fun _ _ e => ct_X5_readNumber e) (fun y34 => ?_)
      refine X_istore_n rfl rfl rfl rfl ?_
      refine X_iload_n rfl rfl rfl ?_
      refine X_iconst (v := -1) rfl rfl (by decide) ?_
      refine X_bicmp_ne rfl rfl (fun _ => ?_) (fun _ => ?_)
      · refine X_iconst (v := 0) rfl rfl (by decide) ?_
        exact X_iret rfl rfl rfl rfl rfl rfl rfl
      · refine X_aload_n rfl rfl rfl ?_
        refine X_callV_UW (M' := M_X5_readWord) (nA := 0) (As := []) (st := []) (b := a0) (ci := 5) rfl rfl (by decide +kernel) rfl rfl rfl rfl rfl rfl rfl rfl (fun _ e => ct_X5_readWord e) (fun h46 => ?_)
        refine X_aload_n rfl rfl rfl ?_
        refine X_getI rfl rfl (fun v50 => ?_)
        refine X_aload_n rfl rfl rfl ?_
        refine X_getI rfl rfl (fun v54 => ?_)
        refine X_bicmp_ne rfl rfl (fun _ => ?_) (fun _ => ?_)
        · refine X_aload_n rfl rfl rfl ?_
          refine X_bipush (v := -2) rfl rfl (by decide) ?_
          refine X_callV_IW (M' := M_X5_isError) (nA := 1) (As := [.int (-2)]) (st := []) (b := a0) (ci := 5) rfl rfl (by decide +kernel) rfl rfl rfl rfl rfl rfl rfl rfl (fun _ _ e => ct_X5_isError e) (fun y63 => ?_)
          exact X_zret rfl rfl rfl ⟨_, rfl, rfl⟩ rfl rfl
        · refine X_aload_n rfl rfl rfl ?_
          refine X_getI rfl rfl (fun v68 => ?_)
          refine X_aload_n rfl rfl rfl ?_
          refine X_getI rfl rfl (fun v72 => ?_)
          refine X_isub rfl rfl ?_
          refine X_bipush (v := 24) rfl rfl (by decide) ?_
          refine X_bicmp_le rfl rfl (fun _ => ?_) (fun _ => ?_)
          · refine X_aload_n rfl rfl rfl ?_
            refine X_bipush (v := -3) rfl rfl (by decide) ?_
            refine X_callV_IW (M' := M_X5_isError) (nA := 1) (As := [.int (-3)]) (st := []) (b := a0) (ci := 5) rfl rfl (by decide +kernel) rfl rfl rfl rfl rfl rfl rfl rfl (fun _ _ e => ct_X5_isError e) (fun y84 => ?_)
            exact X_zret rfl rfl rfl ⟨_, rfl, rfl⟩ rfl rfl
          · refine X_aload_n rfl rfl rfl ?_
            refine X_iload_n rfl rfl rfl ?_
            refine X_iload_n rfl rfl rfl ?_
            refine X_aload_n rfl rfl rfl ?_
            refine X_getA rfl rfl (fun v92 => ?_)
            refine X_aload_n rfl rfl rfl ?_
            refine X_getI rfl rfl (fun v96 => ?_)
            refine X_aload_n rfl rfl rfl ?_
            refine X_getI rfl rfl (fun v100 => ?_)
            refine X_aload_n rfl rfl rfl ?_
            refine X_getI rfl rfl (fun v104 => ?_)
            refine X_isub rfl rfl ?_
            refine X_callV_UW (M' := M_X6_addMessage) (nA := 5) (As := [.int y19.1, .int y34.1, .ref v92, .int v96, .int (v100 - v104)]) (st := []) (b := p1) (ci := 6) rfl rfl (by decide +kernel) rfl rfl rfl rfl rfl rfl rfl rfl (fun _ e => ct_X6_addMessage e) (fun h108 => ?_)
            refine X_iconst (v := 1) rfl rfl (by decide) ?_
            exact X_iret rfl rfl rfl rfl rfl rfl rfl
def f_X5_readStatement (h : gH) (a0 : Nat) (p1 : Nat) : Option (Int32 × gH) :=
  bif g_is h a0 5 then
  (f_X5_readWord h a0).bind fun h1 =>
  bif g_is h1 a0 5 then
  (f_X5_isToken h1 a0 1).bind fun v7 =>
  (if v7 = 0 then
    bif g_is h1 a0 5 then
    (f_X5_isToken h1 a0 2).bind fun v37 =>
    (if v37 = 0 then
      bif g_is h1 a0 5 then
      (f_X5_isToken h1 a0 3).bind fun v67 =>
      (if v67 = 0 then
        bif g_is h1 a0 5 then
        (f_X5_isToken h1 a0 4).bind fun v97 =>
        (if v97 = 0 then
          bif g_is h1 a0 5 then
          (f_X5_isError h1 a0 (-2)).bind fun y127 =>
          (g_z y127.1).bind fun z => some (y127.1, y127.2)
          else none
        else
          bif g_is h1 a0 5 then
          (f_X5_readMessage h1 a0 p1).bind fun y105 =>
          (if y105.1 = 0 then
            some (0, y105.2)
          else
            bif g_is y105.2 a0 5 then
            (f_X5_readSemicolon y105.2 a0).bind fun y112 =>
            (if y112.1 = 0 then
              some (0, y112.2)
            else
              some (1, y112.2))
            else none)
          else none)
        else none
      else
        bif g_is h1 a0 5 then
        (f_X5_readMist h1 a0 p1).bind fun y75 =>
        (if y75.1 = 0 then
          some (0, y75.2)
        else
          bif g_is y75.2 a0 5 then
          (f_X5_readSemicolon y75.2 a0).bind fun y82 =>
          (if y82.1 = 0 then
            some (0, y82.2)
          else
            some (1, y82.2))
          else none)
        else none)
      else none
    else
      bif g_is h1 a0 5 then
      (f_X5_readKeeper h1 a0 p1).bind fun y45 =>
      (if y45.1 = 0 then
        some (0, y45.2)
      else
        bif g_is y45.2 a0 5 then
        (f_X5_readSemicolon y45.2 a0).bind fun y52 =>
        (if y52.1 = 0 then
          some (0, y52.2)
        else
          some (1, y52.2))
        else none)
      else none)
    else none
  else
    bif g_is h1 a0 5 then
    (f_X5_readChannel h1 a0 p1).bind fun y15 =>
    (if y15.1 = 0 then
      some (0, y15.2)
    else
      bif g_is y15.2 a0 5 then
      (f_X5_readSemicolon y15.2 a0).bind fun y22 =>
      (if y22.1 = 0 then
        some (0, y22.2)
      else
        some (1, y22.2))
      else none)
    else none)
  else none
  else none
set_option maxRecDepth 100000 in
theorem ct_X5_readStatement {l : Launch} {G : gG} {h : gH} {a0 : Nat} {p1 : Nat} {r : Int32} {h1 : gH} (e : f_X5_readStatement h a0 p1 = some (r, h1)) : Ct l G M_X5_readStatement [.ref a0, .ref p1] h (some (.int r)) h1 := by
  refine Ct_of (L := [some (.ref a0), some (.ref p1)]) ok_X5_readStatement (by decide +kernel) rfl rfl rfl (ρ := g_wI) (F := f_X5_readStatement h a0 p1) ?_ e rfl
  unfold f_X5_readStatement
  refine X_aload_n rfl rfl rfl ?_
  refine X_callV_UW (M' := M_X5_readWord) (nA := 0) (As := []) (st := []) (b := a0) (ci := 5) rfl rfl (by decide +kernel) rfl rfl rfl rfl rfl rfl rfl rfl (fun _ e => ct_X5_readWord e) (fun h1 => ?_)
  refine X_aload_n rfl rfl rfl ?_
  refine X_ldcS (i := 1) (tx := "channel") rfl rfl (by decide +kernel) ?_
  refine X_callV_IR (M' := M_X5_isToken) (nA := 1) (As := [.ref (g_aK G 1)]) (st := []) (b := a0) (ci := 5) rfl rfl (by decide +kernel) rfl rfl rfl rfl rfl rfl rfl rfl (fun _ e => ct_X5_isToken e) (fun v7 => ?_)
  refine X_bif_eq rfl rfl (fun _ => ?_) (fun _ => ?_)
  · refine X_aload_n rfl rfl rfl ?_
    refine X_ldcS (i := 2) (tx := "keeper") rfl rfl (by decide +kernel) ?_
    refine X_callV_IR (M' := M_X5_isToken) (nA := 1) (As := [.ref (g_aK G 2)]) (st := []) (b := a0) (ci := 5) rfl rfl (by decide +kernel) rfl rfl rfl rfl rfl rfl rfl rfl (fun _ e => ct_X5_isToken e) (fun v37 => ?_)
    refine X_bif_eq rfl rfl (fun _ => ?_) (fun _ => ?_)
    · refine X_aload_n rfl rfl rfl ?_
      refine X_ldcS (i := 3) (tx := "mist") rfl rfl (by decide +kernel) ?_
      refine X_callV_IR (M' := M_X5_isToken) (nA := 1) (As := [.ref (g_aK G 3)]) (st := []) (b := a0) (ci := 5) rfl rfl (by decide +kernel) rfl rfl rfl rfl rfl rfl rfl rfl (fun _ e => ct_X5_isToken e) (fun v67 => ?_)
      refine X_bif_eq rfl rfl (fun _ => ?_) (fun _ => ?_)
      · refine X_aload_n rfl rfl rfl ?_
        refine X_ldcS (i := 4) (tx := "message") rfl rfl (by decide +kernel) ?_
        refine X_callV_IR (M' := M_X5_isToken) (nA := 1) (As := [.ref (g_aK G 4)]) (st := []) (b := a0) (ci := 5) rfl rfl (by decide +kernel) rfl rfl rfl rfl rfl rfl rfl rfl (fun _ e => ct_X5_isToken e) (fun v97 => ?_)
        refine X_bif_eq rfl rfl (fun _ => ?_) (fun _ => ?_)
        · refine X_aload_n rfl rfl rfl ?_
          refine X_bipush (v := -2) rfl rfl (by decide) ?_
          refine X_callV_IW (M' := M_X5_isError) (nA := 1) (As := [.int (-2)]) (st := []) (b := a0) (ci := 5) rfl rfl (by decide +kernel) rfl rfl rfl rfl rfl rfl rfl rfl (fun _ _ e => ct_X5_isError e) (fun y127 => ?_)
          exact X_zret rfl rfl rfl ⟨_, rfl, rfl⟩ rfl rfl
        · refine X_aload_n rfl rfl rfl ?_
          refine X_aload_n rfl rfl rfl ?_
          refine X_callV_IW (M' := M_X5_readMessage) (nA := 1) (As := [.ref p1]) (st := []) (b := a0) (ci := 5) rfl rfl (by decide +kernel) rfl rfl rfl rfl rfl rfl rfl rfl (fun _ _ e => ct_X5_readMessage e) (fun y105 => ?_)
          refine X_bif_eq rfl rfl (fun _ => ?_) (fun _ => ?_)
          · refine X_iconst (v := 0) rfl rfl (by decide) ?_
            exact X_iret rfl rfl rfl rfl rfl rfl rfl
          · refine X_aload_n rfl rfl rfl ?_
            refine X_callV_IW (M' := M_X5_readSemicolon) (nA := 0) (As := []) (st := []) (b := a0) (ci := 5) rfl rfl (by decide +kernel) rfl rfl rfl rfl rfl rfl rfl rfl (fun _ _ e => ct_X5_readSemicolon e) (fun y112 => ?_)
            refine X_bif_eq rfl rfl (fun _ => ?_) (fun _ => ?_)
            · refine X_iconst (v := 0) rfl rfl (by decide) ?_
              exact X_iret rfl rfl rfl rfl rfl rfl rfl
            · refine X_iconst (v := 1) rfl rfl (by decide) ?_
              refine X_goto rfl rfl ?_
              exact X_iret rfl rfl rfl rfl rfl rfl rfl
      · refine X_aload_n rfl rfl rfl ?_
        refine X_aload_n rfl rfl rfl ?_
        refine X_callV_IW (M' := M_X5_readMist) (nA := 1) (As := [.ref p1]) (st := []) (b := a0) (ci := 5) rfl rfl (by decide +kernel) rfl rfl rfl rfl rfl rfl rfl rfl (fun _ _ e => ct_X5_readMist e) (fun y75 => ?_)
        refine X_bif_eq rfl rfl (fun _ => ?_) (fun _ => ?_)
        · refine X_iconst (v := 0) rfl rfl (by decide) ?_
          exact X_iret rfl rfl rfl rfl rfl rfl rfl
        · refine X_aload_n rfl rfl rfl ?_
          refine X_callV_IW (M' := M_X5_readSemicolon) (nA := 0) (As := []) (st := []) (b := a0) (ci := 5) rfl rfl (by decide +kernel) rfl rfl rfl rfl rfl rfl rfl rfl (fun _ _ e => ct_X5_readSemicolon e) (fun y82 => ?_)
          refine X_bif_eq rfl rfl (fun _ => ?_) (fun _ => ?_)
          · refine X_iconst (v := 0) rfl rfl (by decide) ?_
            exact X_iret rfl rfl rfl rfl rfl rfl rfl
          · refine X_iconst (v := 1) rfl rfl (by decide) ?_
            refine X_goto rfl rfl ?_
            exact X_iret rfl rfl rfl rfl rfl rfl rfl
    · refine X_aload_n rfl rfl rfl ?_
      refine X_aload_n rfl rfl rfl ?_
      refine X_callV_IW (M' := M_X5_readKeeper) (nA := 1) (As := [.ref p1]) (st := []) (b := a0) (ci := 5) rfl rfl (by decide +kernel) rfl rfl rfl rfl rfl rfl rfl rfl (fun _ _ e => ct_X5_readKeeper e) (fun y45 => ?_)
      refine X_bif_eq rfl rfl (fun _ => ?_) (fun _ => ?_)
      · refine X_iconst (v := 0) rfl rfl (by decide) ?_
        exact X_iret rfl rfl rfl rfl rfl rfl rfl
      · refine X_aload_n rfl rfl rfl ?_
        refine X_callV_IW (M' := M_X5_readSemicolon) (nA := 0) (As := []) (st := []) (b := a0) (ci := 5) rfl rfl (by decide +kernel) rfl rfl rfl rfl rfl rfl rfl rfl (fun _ _ e => ct_X5_readSemicolon e) (fun y52 => ?_)
        refine X_bif_eq rfl rfl (fun _ => ?_) (fun _ => ?_)
        · refine X_iconst (v := 0) rfl rfl (by decide) ?_
          exact X_iret rfl rfl rfl rfl rfl rfl rfl
        · refine X_iconst (v := 1) rfl rfl (by decide) ?_
          refine X_goto rfl rfl ?_
          exact X_iret rfl rfl rfl rfl rfl rfl rfl
  · refine X_aload_n rfl rfl rfl ?_
    refine X_aload_n rfl rfl rfl ?_
    refine X_callV_IW (M' := M_X5_readChannel) (nA := 1) (As := [.ref p1]) (st := []) (b := a0) (ci := 5) rfl rfl (by decide +kernel) rfl rfl rfl rfl rfl rfl rfl rfl (fun _ _ e => ct_X5_readChannel e) (fun y15 => ?_)
    refine X_bif_eq rfl rfl (fun _ => ?_) (fun _ => ?_)
    · refine X_iconst (v := 0) rfl rfl (by decide) ?_
      exact X_iret rfl rfl rfl rfl rfl rfl rfl
    · refine X_aload_n rfl rfl rfl ?_
      refine X_callV_IW (M' := M_X5_readSemicolon) (nA := 0) (As := []) (st := []) (b := a0) (ci := 5) rfl rfl (by decide +kernel) rfl rfl rfl rfl rfl rfl rfl rfl (fun _ _ e => ct_X5_readSemicolon e) (fun y22 => ?_)
      refine X_bif_eq rfl rfl (fun _ => ?_) (fun _ => ?_)
      · refine X_iconst (v := 0) rfl rfl (by decide) ?_
        exact X_iret rfl rfl rfl rfl rfl rfl rfl
      · refine X_iconst (v := 1) rfl rfl (by decide) ?_
        refine X_goto rfl rfl ?_
        exact X_iret rfl rfl rfl rfl rfl rfl rfl
def f_X5_readInto_b12 : Nat → gH → Nat → Nat → Int32 → Option (Int32 × gH)
  | 0, _, _, _, _ => none
  | n + 1, h, l0, l1, l2 =>
    (g_gI h l0 5 1).bind fun v14 =>
    (if l2 < v14 then
      bif g_is h l0 5 then
      (f_X5_findToken h l0).bind fun y21 =>
      (if y21.1 = 0 then
        some (1, y21.2)
      else
        bif g_is y21.2 l0 5 then
        (f_X5_readStatement y21.2 l0 l1).bind fun y29 =>
        (if y29.1 = 0 then
          some (0, y29.2)
        else
          f_X5_readInto_b12  n y29.2 l0 l1 (l2 + 1))
        else none)
      else none
    else
      some (1, h))
def f_X5_readInto (h : gH) (a0 : Nat) (p1 : Nat) : Option (Int32 × gH) :=
  bif g_is h a0 5 then
  (f_X5_readRelay h a0 p1).bind fun y2 =>
  (if y2.1 = 0 then
    some (0, y2.2)
  else
    f_X5_readInto_b12 g_N y2.2 a0 p1 0)
  else none
set_option maxRecDepth 100000 in
theorem b_X5_readInto_b12 {l : Launch} {G : gG} : ∀ (n : Nat) (h : gH) (l0 : Nat) (l1 : Nat) (l2 : Int32), GX l G M_X5_readInto (g_phi G g_wI (m_R M_X5_readInto).cells (m_R M_X5_readInto).slots) 0 0 12 [some (.ref l0), some (.ref l1), some (.int l2)] [] h (f_X5_readInto_b12 n h l0 l1 l2) := by
  intro n
  induction n with
  | zero => intros; exact X_none
  | succ n ih =>
    intro h l0 l1 l2
    rw [f_X5_readInto_b12]
    refine X_iload_n rfl rfl rfl ?_
    refine X_aload_n rfl rfl rfl ?_
    refine X_getI rfl rfl (fun v14 => ?_)
    refine X_bicmp_ge rfl rfl (fun _ => ?_) (fun _ => ?_)
    · refine X_aload_n rfl rfl rfl ?_
      refine X_callV_IW (M' := M_X5_findToken) (nA := 0) (As := []) (st := []) (b := l0) (ci := 5) rfl rfl (by decide +kernel) rfl rfl rfl rfl rfl rfl rfl rfl (fun _ _ e => ct_X5_findToken e) (fun y21 => ?_)
      refine X_bif_eq rfl rfl (fun _ => ?_) (fun _ => ?_)
      · refine X_iconst (v := 1) rfl rfl (by decide) ?_
        exact X_iret rfl rfl rfl rfl rfl rfl rfl
      · refine X_aload_n rfl rfl rfl ?_
        refine X_aload_n rfl rfl rfl ?_
        refine X_callV_IW (M' := M_X5_readStatement) (nA := 1) (As := [.ref l1]) (st := []) (b := l0) (ci := 5) rfl rfl (by decide +kernel) rfl rfl rfl rfl rfl rfl rfl rfl (fun _ _ e => ct_X5_readStatement e) (fun y29 => ?_)
        refine X_bif_ne rfl rfl (fun _ => ?_) (fun _ => ?_)
        · refine X_iconst (v := 0) rfl rfl (by decide) ?_
          exact X_iret rfl rfl rfl rfl rfl rfl rfl
        · refine X_iinc (v := l2 + 1) rfl rfl rfl (congrArg (fun z => l2 + z) (by decide : Int32.ofInt 1 = 1)) rfl ?_
          refine X_goto rfl rfl ?_
          exact X_sub (g_sub_s (g_sub_s (g_sub_s g_sub_0))) (ih _ _ _ _)
    · refine X_iconst (v := 1) rfl rfl (by decide) ?_
      exact X_iret rfl rfl rfl rfl rfl rfl rfl
set_option maxRecDepth 100000 in
theorem ct_X5_readInto {l : Launch} {G : gG} {h : gH} {a0 : Nat} {p1 : Nat} {r : Int32} {h1 : gH} (e : f_X5_readInto h a0 p1 = some (r, h1)) : Ct l G M_X5_readInto [.ref a0, .ref p1] h (some (.int r)) h1 := by
  refine Ct_of (L := [some (.ref a0), some (.ref p1), none]) ok_X5_readInto (by decide +kernel) rfl rfl rfl (ρ := g_wI) (F := f_X5_readInto h a0 p1) ?_ e rfl
  unfold f_X5_readInto
  refine X_aload_n rfl rfl rfl ?_
  refine X_aload_n rfl rfl rfl ?_
  refine X_callV_IW (M' := M_X5_readRelay) (nA := 1) (As := [.ref p1]) (st := []) (b := a0) (ci := 5) rfl rfl (by decide +kernel) rfl rfl rfl rfl rfl rfl rfl rfl (fun _ _ e => ct_X5_readRelay e) (fun y2 => ?_)
  refine X_bif_ne rfl rfl (fun _ => ?_) (fun _ => ?_)
  · refine X_iconst (v := 0) rfl rfl (by decide) ?_
    exact X_iret rfl rfl rfl rfl rfl rfl rfl
  · refine X_iconst (v := 0) rfl rfl (by decide) ?_
    refine X_istore_n rfl rfl rfl rfl ?_
    exact X_sub (g_sub_s (g_sub_s (g_sub_s g_sub_0))) (b_X5_readInto_b12  _ _ _ _ _)
