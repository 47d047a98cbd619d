def f_T3_checkIndex_8e157 (G : gG) (h : gH) (p0 : Int32) (p1 : Int32) (p2 : Option Nat) : Option (Int32) :=
  (if 0 ≤ p0 then
    (if p1 ≤ p0 then
      none
    else
      some p0)
  else
    none)
set_option maxRecDepth 100000 in
theorem ct_T3_checkIndex_8e157 {l : Launch} {G : gG} {h : gH} {p0 : Int32} {p1 : Int32} {p2 : Option Nat} {r : Int32} (e : f_T3_checkIndex_8e157 G h p0 p1 p2 = some r) : Ct l G M_T3_checkIndex_8e157 [.int p0, .int p1, va_rf p2] h (some (.int r)) h := by
  refine Ct_of (L := [some (.int p0), some (.int p1), some (va_rf p2)]) ok_T3_checkIndex_8e157 (by decide +kernel)  (by cases p2 <;> rfl) rfl  (by cases p2 <;> rfl) (ρ := (g_rI h)) (F := f_T3_checkIndex_8e157 G h p0 p1 p2) ?_ e rfl
  unfold f_T3_checkIndex_8e157
  refine X_iload_n rfl rfl rfl ?_
  refine X_bif_lt rfl rfl (fun _ => ?_) (fun _ => ?_)
  · refine X_iload_n rfl rfl rfl ?_
    refine X_iload_n rfl rfl rfl ?_
    refine X_bicmp_lt rfl rfl (fun _ => ?_) (fun _ => ?_)
    · exact X_none
    · refine X_iload_n rfl rfl rfl ?_
      exact X_iret rfl rfl rfl rfl rfl rfl rfl
  · exact X_none
def f_T0_checkIndex_df160 (G : gG) (h : gH) (p0 : Int32) (p1 : Int32) : Option Unit :=
  (f_T3_checkIndex_8e157 G h p0 p1 none).bind fun v5 =>
  some ()
set_option maxRecDepth 100000 in
theorem ct_T0_checkIndex_df160 {l : Launch} {G : gG} {h : gH} {p0 : Int32} {p1 : Int32} {r : Unit} (e : f_T0_checkIndex_df160 G h p0 p1 = some r) : Ct l G M_T0_checkIndex_df160 [.int p0, .int p1] h none h := by
  refine Ct_of (L := [some (.int p0), some (.int p1)]) ok_T0_checkIndex_df160 (by decide +kernel) rfl rfl rfl (ρ := (g_rU h)) (F := f_T0_checkIndex_df160 G h p0 p1) ?_ e rfl
  unfold f_T0_checkIndex_df160
  refine X_iload_n rfl rfl rfl ?_
  refine X_iload_n rfl rfl rfl ?_
  refine X_gstatQ (C := "jdk/internal/util/Preconditions") (nm := "SIOOBE_FORMATTER") (ds := "Ljava/util/function/BiFunction;") rfl rfl (by decide +kernel) g_zSF (fun x2 => ?_)
  refine X_callS_IR (M' := M_T3_checkIndex_8e157) (nA := 3) (As := [.int p0, .int p1, va_rf x2]) (st := []) rfl rfl (by decide +kernel) rfl rfl rfl rfl rfl rfl rfl (fun _ e => ct_T3_checkIndex_8e157  e) (fun v5 => ?_)
  refine X_pop rfl rfl rfl ?_
  exact X_vret rfl rfl rfl rfl rfl rfl
def f_T1_charAt_3b067 (G : gG) (h : gH) (p0 : Nat) (p1 : Int32) : Option (Int32) :=
  (g_slnA G h p0).bind fun v2 =>
  (f_T0_checkIndex_df160 G h p1 v2).bind fun _ =>
  (g_sldA G h p0 p1).bind fun v8 =>
  (if narrow .char (.int ((Int32.toUInt32 (v8 &&& 255) % 65536).toInt32)) = .int ((Int32.toUInt32 (v8 &&& 255) % 65536).toInt32) then some ((Int32.toUInt32 (v8 &&& 255) % 65536).toInt32) else none)
set_option maxRecDepth 100000 in
theorem ct_T1_charAt_3b067 {l : Launch} {G : gG} {h : gH} {p0 : Nat} {p1 : Int32} {r : Int32} (e : f_T1_charAt_3b067 G h p0 p1 = some r) : Ct l G M_T1_charAt_3b067 [.ref p0, .int p1] h (some (.int r)) h := by
  refine Ct_of (L := [some (.ref p0), some (.int p1)]) ok_T1_charAt_3b067 (by decide +kernel) rfl rfl rfl (ρ := (g_rI h)) (F := f_T1_charAt_3b067 G h p0 p1) ?_ e rfl
  unfold f_T1_charAt_3b067
  refine X_iload_n rfl rfl rfl ?_
  refine X_aload_n rfl rfl rfl ?_
  refine X_gsln rfl rfl (fun v2 => ?_)
  refine X_callS_UR (M' := M_T0_checkIndex_df160) (nA := 2) (As := [.int p1, .int v2]) (st := []) rfl rfl (by decide +kernel) rfl rfl rfl rfl rfl rfl rfl (fun _ e => ct_T0_checkIndex_df160  e) (fun _ => ?_)
  refine X_aload_n rfl rfl rfl ?_
  refine X_iload_n rfl rfl rfl ?_
  refine X_gsld rfl rfl (fun v8 => ?_)
  refine X_sipush (v := 255) rfl rfl (by decide) ?_
  refine X_iand rfl rfl ?_
  refine X_i2c (v := (Int32.toUInt32 (v8 &&& 255) % 65536).toInt32) rfl rfl rfl ?_
  refine X_if (fun nr => ?_) (fun _ => X_none)
  exact X_iret rfl rfl rfl nr rfl rfl rfl
def f_T0_isLatin1_aae02 (G : gG) (h : gH) (a0 : Nat) : Option (Int32) :=
  (if (1 : Int32) = 0 then
    some 0
  else
    (g_scod G h a0).bind fun v7 =>
    (if v7 = 0 then
      some 1
    else
      some 0))
set_option maxRecDepth 100000 in
theorem ct_T0_isLatin1_aae02 {l : Launch} {G : gG} {h : gH} {a0 : Nat} {r : Int32} (e : f_T0_isLatin1_aae02 G h a0 = some r) : Ct l G M_T0_isLatin1_aae02 [.ref a0] h (some (.int r)) h := by
  refine Ct_of (L := [some (.ref a0)]) ok_T0_isLatin1_aae02 (by decide +kernel) rfl rfl rfl (ρ := (g_rI h)) (F := f_T0_isLatin1_aae02 G h a0) ?_ e rfl
  unfold f_T0_isLatin1_aae02
  refine X_gstat (C := "java/lang/String") (nm := "COMPACT_STRINGS") (ds := "Z") (v := .int 1) rfl rfl (by decide +kernel) g_zCS ?_
  refine X_bif_eq rfl rfl (fun _ => ?_) (fun _ => ?_)
  · refine X_iconst (v := 0) rfl rfl (by decide) ?_
    exact X_iret rfl rfl rfl rfl rfl rfl rfl
  · refine X_aload_n rfl rfl rfl ?_
    refine X_gscod rfl rfl (by decide +kernel) (fun v7 => ?_)
    refine X_bif_ne rfl rfl (fun _ => ?_) (fun _ => ?_)
    · refine X_iconst (v := 1) rfl rfl (by decide) ?_
      refine X_goto rfl rfl ?_
      exact X_iret rfl rfl rfl rfl rfl rfl rfl
    · refine X_iconst (v := 0) rfl rfl (by decide) ?_
      exact X_iret rfl rfl rfl rfl rfl rfl rfl
def f_T0_coder_7d493 (G : gG) (h : gH) (a0 : Nat) : Option (Int32) :=
  (if (1 : Int32) = 0 then
    (if narrow .byte (.int (1)) = .int (1) then some 1 else none)
  else
    (g_scod G h a0).bind fun v7 =>
    (if narrow .byte (.int (v7)) = .int (v7) then some v7 else none))
set_option maxRecDepth 100000 in
theorem ct_T0_coder_7d493 {l : Launch} {G : gG} {h : gH} {a0 : Nat} {r : Int32} (e : f_T0_coder_7d493 G h a0 = some r) : Ct l G M_T0_coder_7d493 [.ref a0] h (some (.int r)) h := by
  refine Ct_of (L := [some (.ref a0)]) ok_T0_coder_7d493 (by decide +kernel) rfl rfl rfl (ρ := (g_rI h)) (F := f_T0_coder_7d493 G h a0) ?_ e rfl
  unfold f_T0_coder_7d493
  refine X_gstat (C := "java/lang/String") (nm := "COMPACT_STRINGS") (ds := "Z") (v := .int 1) rfl rfl (by decide +kernel) g_zCS ?_
  refine X_bif_eq rfl rfl (fun _ => ?_) (fun _ => ?_)
  · refine X_iconst (v := 1) rfl rfl (by decide) ?_
    refine X_if (fun nr => ?_) (fun _ => X_none)
    exact X_iret rfl rfl rfl nr rfl rfl rfl
  · refine X_aload_n rfl rfl rfl ?_
    refine X_gscod rfl rfl (by decide +kernel) (fun v7 => ?_)
    refine X_goto rfl rfl ?_
    refine X_if (fun nr => ?_) (fun _ => X_none)
    exact X_iret rfl rfl rfl nr rfl rfl rfl
def f_T0_length_8abf5 (G : gG) (h : gH) (a0 : Nat) : Option (Int32) :=
  (g_sval G h a0).bind fun v1 =>
  (g_slnA G h v1).bind fun v4 =>
  bif g_isS G h a0 then
  (f_T0_coder_7d493 G h a0).bind fun v6 =>
  some (v4 >>> (v6 &&& 31))
  else none
set_option maxRecDepth 100000 in
theorem ct_T0_length_8abf5 {l : Launch} {G : gG} {h : gH} {a0 : Nat} {r : Int32} (e : f_T0_length_8abf5 G h a0 = some r) : Ct l G M_T0_length_8abf5 [.ref a0] h (some (.int r)) h := by
  refine Ct_of (L := [some (.ref a0)]) ok_T0_length_8abf5 (by decide +kernel) rfl rfl rfl (ρ := (g_rI h)) (F := f_T0_length_8abf5 G h a0) ?_ e rfl
  unfold f_T0_length_8abf5
  refine X_aload_n rfl rfl rfl ?_
  refine X_gsval rfl rfl (by decide +kernel) (fun v1 => ?_)
  refine X_gsln rfl rfl (fun v4 => ?_)
  refine X_aload_n rfl rfl rfl ?_
  refine X_kG_IR (M' := M_T0_coder_7d493) (nA := 0) (As := []) (st := [.int v4]) (x := a0) rfl rfl (by decide +kernel) rfl rfl rfl rfl rfl rfl rfl rfl (fun _ e => ct_T0_coder_7d493  e) (fun v6 => ?_)
  refine X_ishr rfl rfl rfl ?_
  exact X_iret rfl rfl rfl rfl rfl rfl rfl
def f_T0_charAt_5068e (G : gG) (h : gH) (a0 : Nat) (p1 : Int32) : Option (Int32) :=
  bif g_isS G h a0 then
  (f_T0_isLatin1_aae02 G h a0).bind fun v1 =>
  (if v1 = 0 then
    none
  else
    (g_sval G h a0).bind fun v8 =>
    (f_T1_charAt_3b067 G h v8 p1).bind fun v12 =>
    (if narrow .char (.int (v12)) = .int (v12) then some v12 else none))
  else none
set_option maxRecDepth 100000 in
theorem ct_T0_charAt_5068e {l : Launch} {G : gG} {h : gH} {a0 : Nat} {p1 : Int32} {r : Int32} (e : f_T0_charAt_5068e G h a0 p1 = some r) : Ct l G M_T0_charAt_5068e [.ref a0, .int p1] h (some (.int r)) h := by
  refine Ct_of (L := [some (.ref a0), some (.int p1)]) ok_T0_charAt_5068e (by decide +kernel) rfl rfl rfl (ρ := (g_rI h)) (F := f_T0_charAt_5068e G h a0 p1) ?_ e rfl
  unfold f_T0_charAt_5068e
  refine X_aload_n rfl rfl rfl ?_
  refine X_kG_IR (M' := M_T0_isLatin1_aae02) (nA := 0) (As := []) (st := []) (x := a0) rfl rfl (by decide +kernel) rfl rfl rfl rfl rfl rfl rfl rfl (fun _ e => ct_T0_isLatin1_aae02  e) (fun v1 => ?_)
  refine X_bif_eq rfl rfl (fun _ => ?_) (fun _ => ?_)
  · exact X_none
  · refine X_aload_n rfl rfl rfl ?_
    refine X_gsval rfl rfl (by decide +kernel) (fun v8 => ?_)
    refine X_iload_n rfl rfl rfl ?_
    refine X_callS_IR (M' := M_T1_charAt_3b067) (nA := 2) (As := [.ref v8, .int p1]) (st := []) rfl rfl (by decide +kernel) rfl rfl rfl rfl rfl rfl rfl (fun _ e => ct_T1_charAt_3b067  e) (fun v12 => ?_)
    refine X_if (fun nr => ?_) (fun _ => X_none)
    exact X_iret rfl rfl rfl nr rfl rfl rfl
def f_T0_getBytes_840e7 (G : gG) (h : gH) (a0 : Nat) (p1 : Nat) (p2 : Int32) (p3 : Int32) : Option gH :=
  bif g_isS G h a0 then
  (f_T0_coder_7d493 G h a0).bind fun v1 =>
  (if v1 = p3 then
    (g_sval G h a0).bind fun v9 =>
    (g_sval G h a0).bind fun v18 =>
    (g_slnA G h v18).bind fun v21 =>
    (g_cpyS G h v9 0 p1 (p2 <<< (p3 &&& 31)) v21).bind fun h22 =>
    some h22
  else
    none)
  else none
set_option maxRecDepth 100000 in
theorem ct_T0_getBytes_840e7 {l : Launch} {G : gG} {h : gH} {a0 : Nat} {p1 : Nat} {p2 : Int32} {p3 : Int32} {h1 : gH} (e : f_T0_getBytes_840e7 G h a0 p1 p2 p3 = some h1) : Ct l G M_T0_getBytes_840e7 [.ref a0, .ref p1, .int p2, .int p3] h none h1 := by
  refine Ct_of (L := [some (.ref a0), some (.ref p1), some (.int p2), some (.int p3)]) ok_T0_getBytes_840e7 (by decide +kernel) rfl rfl rfl (ρ := g_wU) (F := f_T0_getBytes_840e7 G h a0 p1 p2 p3) ?_ e rfl
  unfold f_T0_getBytes_840e7
  refine X_aload_n rfl rfl rfl ?_
  refine X_kG_IR (M' := M_T0_coder_7d493) (nA := 0) (As := []) (st := []) (x := a0) rfl rfl (by decide +kernel) rfl rfl rfl rfl rfl rfl rfl rfl (fun _ e => ct_T0_coder_7d493  e) (fun v1 => ?_)
  refine X_iload_n rfl rfl rfl ?_
  refine X_bicmp_ne rfl rfl (fun _ => ?_) (fun _ => ?_)
  · refine X_aload_n rfl rfl rfl ?_
    refine X_gsval rfl rfl (by decide +kernel) (fun v9 => ?_)
    refine X_iconst (v := 0) rfl rfl (by decide) ?_
    refine X_aload_n rfl rfl rfl ?_
    refine X_iload_n rfl rfl rfl ?_
    refine X_iload_n rfl rfl rfl ?_
    refine X_ishl rfl rfl rfl ?_
    refine X_aload_n rfl rfl rfl ?_
    refine X_gsval rfl rfl (by decide +kernel) (fun v18 => ?_)
    refine X_gsln rfl rfl (fun v21 => ?_)
    refine X_cpyS rfl rfl (by decide +kernel) (by decide +kernel) (by decide +kernel) (by decide +kernel) rfl (by decide) (fun h22 => ?_)
    refine X_goto rfl rfl ?_
    exact X_vret rfl rfl rfl rfl rfl rfl
  · exact X_none
def f_T5_init_d00df (G : gG) (h : gH) (a0 : Nat) (p1 : Int32) : Option gH :=
  (if (1 : Int32) = 0 then
    none
  else
    (g_nwB h p1 16).bind fun h12 =>
    (g_put h12 a0 13 0 (.ref h.1)).bind fun h14 =>
    (g_put h14 a0 13 1 (.int 0)).bind fun h19 =>
    some h19)
set_option maxRecDepth 100000 in
theorem ct_T5_init_d00df {l : Launch} {G : gG} {h : gH} {a0 : Nat} {p1 : Int32} {h1 : gH} (e : f_T5_init_d00df G h a0 p1 = some h1) : Ct l G M_T5_init_d00df [.ref a0, .int p1] h none h1 := by
  refine Ct_of (L := [some (.ref a0), some (.int p1)]) ok_T5_init_d00df (by decide +kernel) rfl rfl rfl (ρ := g_wU) (F := f_T5_init_d00df G h a0 p1) ?_ e rfl
  unfold f_T5_init_d00df
  refine X_aload_n rfl rfl rfl ?_
  refine X_objInit rfl rfl (by decide +kernel) (by decide +kernel) (by decide +kernel) rfl rfl ?_
  refine X_gstat (C := "java/lang/String") (nm := "COMPACT_STRINGS") (ds := "Z") (v := .int 1) rfl rfl (by decide +kernel) g_zCS ?_
  refine X_bif_eq rfl rfl (fun _ => ?_) (fun _ => ?_)
  · exact X_none
  · refine X_aload_n rfl rfl rfl ?_
    refine X_iload_n rfl rfl rfl ?_
    refine X_nwB (k1 := 1) (n1 := 16) (B := 16) rfl rfl rfl rfl rfl rfl rfl (fun h12 => ?_)
    refine X_put rfl rfl rfl rfl rfl (fun h14 => ?_)
    refine X_aload_n rfl rfl rfl ?_
    refine X_iconst (v := 0) rfl rfl (by decide) ?_
    refine X_put rfl rfl rfl rfl rfl (fun h19 => ?_)
    refine X_goto rfl rfl ?_
    exact X_vret rfl rfl rfl rfl rfl rfl
def f_T4_init_da8c8 (G : gG) (h : gH) (a0 : Nat) : Option gH :=
  (f_T5_init_d00df G h a0 16).bind fun h3 =>
  some h3
set_option maxRecDepth 100000 in
theorem ct_T4_init_da8c8 {l : Launch} {G : gG} {h : gH} {a0 : Nat} {h1 : gH} (e : f_T4_init_da8c8 G h a0 = some h1) : Ct l G M_T4_init_da8c8 [.ref a0] h none h1 := by
  refine Ct_of (L := [some (.ref a0)]) ok_T4_init_da8c8 (by decide +kernel) rfl rfl rfl (ρ := g_wU) (F := f_T4_init_da8c8 G h a0) ?_ e rfl
  unfold f_T4_init_da8c8
  refine X_aload_n rfl rfl rfl ?_
  refine X_bipush (v := 16) rfl rfl (by decide) ?_
  refine X_kI_U (k1 := 1) (n1 := 16) (M' := M_T5_init_d00df) (nA := 1) (As := [.int 16]) (st := []) (b := a0) rfl rfl (by decide +kernel) rfl rfl rfl rfl rfl rfl rfl (fun _ e => ct_T5_init_d00df  e) (fun h3 => ?_)
  exact X_vret rfl rfl rfl rfl rfl rfl
def f_T5_ensureCapacityInternal_d00df (G : gG) (h : gH) (a0 : Nat) (p1 : Int32) : Option gH :=
  (g_gA h a0 13 0).bind fun v1 =>
  (g_slnA G h v1).bind fun v4 =>
  (g_gI h a0 13 1).bind fun v6 =>
  (if 0 < (p1 - (v4 >>> (v6 &&& 31))) then
    none
  else
    some h)
set_option maxRecDepth 100000 in
theorem ct_T5_ensureCapacityInternal_d00df {l : Launch} {G : gG} {h : gH} {a0 : Nat} {p1 : Int32} {h1 : gH} (e : f_T5_ensureCapacityInternal_d00df G h a0 p1 = some h1) : Ct l G M_T5_ensureCapacityInternal_d00df [.ref a0, .int p1] h none h1 := by
  refine Ct_of (L := [some (.ref a0), some (.int p1), none]) ok_T5_ensureCapacityInternal_d00df (by decide +kernel) rfl rfl rfl (ρ := g_wU) (F := f_T5_ensureCapacityInternal_d00df G h a0 p1) ?_ e rfl
  unfold f_T5_ensureCapacityInternal_d00df
  refine X_aload_n rfl rfl rfl ?_
  refine X_getA rfl rfl (fun v1 => ?_)
  refine X_gsln rfl rfl (fun v4 => ?_)
  refine X_aload_n rfl rfl rfl ?_
  refine X_getI rfl rfl (fun v6 => ?_)
  refine X_ishr rfl rfl rfl ?_
  refine X_istore_n rfl rfl rfl rfl ?_
  refine X_iload_n rfl rfl rfl ?_
  refine X_iload_n rfl rfl rfl ?_
  refine X_isub rfl rfl ?_
  refine X_bif_le rfl rfl (fun _ => ?_) (fun _ => ?_)
  · exact X_none
  · exact X_vret rfl rfl rfl rfl rfl rfl
def f_T5_inflateIfNeededFor_a7421 (G : gG) (h : gH) (a0 : Nat) (p1 : Nat) : Option gH :=
  (if (1 : Int32) = 0 then
    some h
  else
    (g_gI h a0 13 1).bind fun v7 =>
    bif g_isS G h p1 then
    (f_T0_coder_7d493 G h p1).bind fun v11 =>
    (if v7 = v11 then
      some h
    else
      none)
    else none)
set_option maxRecDepth 100000 in
theorem ct_T5_inflateIfNeededFor_a7421 {l : Launch} {G : gG} {h : gH} {a0 : Nat} {p1 : Nat} {h1 : gH} (e : f_T5_inflateIfNeededFor_a7421 G h a0 p1 = some h1) : Ct l G M_T5_inflateIfNeededFor_a7421 [.ref a0, .ref p1] h none h1 := by
  refine Ct_of (L := [some (.ref a0), some (.ref p1)]) ok_T5_inflateIfNeededFor_a7421 (by decide +kernel) rfl rfl rfl (ρ := g_wU) (F := f_T5_inflateIfNeededFor_a7421 G h a0 p1) ?_ e rfl
  unfold f_T5_inflateIfNeededFor_a7421
  refine X_gstat (C := "java/lang/String") (nm := "COMPACT_STRINGS") (ds := "Z") (v := .int 1) rfl rfl (by decide +kernel) g_zCS ?_
  refine X_bif_eq rfl rfl (fun _ => ?_) (fun _ => ?_)
  · exact X_vret rfl rfl rfl rfl rfl rfl
  · refine X_aload_n rfl rfl rfl ?_
    refine X_getI rfl rfl (fun v7 => ?_)
    refine X_aload_n rfl rfl rfl ?_
    refine X_kG_IR (M' := M_T0_coder_7d493) (nA := 0) (As := []) (st := [.int v7]) (x := p1) rfl rfl (by decide +kernel) rfl rfl rfl rfl rfl rfl rfl rfl (fun _ e => ct_T0_coder_7d493  e) (fun v11 => ?_)
    refine X_bicmp_eq rfl rfl (fun _ => ?_) (fun _ => ?_)
    · exact X_vret rfl rfl rfl rfl rfl rfl
    · exact X_none
def f_T5_putStringAt_47b60 (G : gG) (h : gH) (a0 : Nat) (p1 : Int32) (p2 : Nat) : Option gH :=
  bif g_is h a0 13 then
  (f_T5_inflateIfNeededFor_a7421 G h a0 p2).bind fun h2 =>
  (g_gA h2 a0 13 0).bind fun v7 =>
  (g_gI h2 a0 13 1).bind fun v12 =>
  bif g_isS G h2 p2 then
  (f_T0_getBytes_840e7 G h2 p2 v7 p1 v12).bind fun h15 =>
  some h15
  else none
  else none
set_option maxRecDepth 100000 in
theorem ct_T5_putStringAt_47b60 {l : Launch} {G : gG} {h : gH} {a0 : Nat} {p1 : Int32} {p2 : Nat} {h1 : gH} (e : f_T5_putStringAt_47b60 G h a0 p1 p2 = some h1) : Ct l G M_T5_putStringAt_47b60 [.ref a0, .int p1, .ref p2] h none h1 := by
  refine Ct_of (L := [some (.ref a0), some (.int p1), some (.ref p2)]) ok_T5_putStringAt_47b60 (by decide +kernel) rfl rfl rfl (ρ := g_wU) (F := f_T5_putStringAt_47b60 G h a0 p1 p2) ?_ e rfl
  unfold f_T5_putStringAt_47b60
  refine X_aload_n rfl rfl rfl ?_
  refine X_aload_n rfl rfl rfl ?_
  refine X_kU_U (k1 := 0) (n1 := 0) (M' := M_T5_inflateIfNeededFor_a7421) (M0 := M_T5_inflateIfNeededFor_a7421) (nA := 1) (As := [.ref p2]) (st := []) (b := a0) (ci := 13) rfl rfl (by decide +kernel) rfl rfl rfl rfl rfl rfl rfl (fun _ e => ct_T5_inflateIfNeededFor_a7421  e) (fun h2 => ?_)
  refine X_aload_n rfl rfl rfl ?_
  refine X_aload_n rfl rfl rfl ?_
  refine X_getA rfl rfl (fun v7 => ?_)
  refine X_iload_n rfl rfl rfl ?_
  refine X_aload_n rfl rfl rfl ?_
  refine X_getI rfl rfl (fun v12 => ?_)
  refine X_kG_U (k1 := 0) (n1 := 0) (M' := M_T0_getBytes_840e7) (nA := 3) (As := [.ref v7, .int p1, .int v12]) (st := []) (x := p2) rfl rfl (by decide +kernel) rfl rfl rfl rfl rfl rfl rfl rfl (fun _ e => ct_T0_getBytes_840e7  e) (fun h15 => ?_)
  exact X_vret rfl rfl rfl rfl rfl rfl
def f_T5_append_cf1ce (G : gG) (h : gH) (a0 : Nat) (p1 : Nat) : Option (Nat × gH) :=
  bif g_isS G h p1 then
  (f_T0_length_8abf5 G h p1).bind fun v10 =>
  (g_gI h a0 13 3).bind fun v16 =>
  bif g_is h a0 13 then
  (f_T5_ensureCapacityInternal_d00df G h a0 (v16 + v10)).bind fun h21 =>
  (g_gI h21 a0 13 3).bind fun v26 =>
  bif g_is h21 a0 13 then
  (f_T5_putStringAt_47b60 G h21 a0 v26 p1).bind fun h30 =>
  (g_gI h30 a0 13 3).bind fun v35 =>
  (g_put h30 a0 13 3 (.int (v35 + v10))).bind fun h40 =>
  some (a0, h40)
  else none
  else none
  else none
set_option maxRecDepth 100000 in
theorem ct_T5_append_cf1ce {l : Launch} {G : gG} {h : gH} {a0 : Nat} {p1 : Nat} {r : Nat} {h1 : gH} (e : f_T5_append_cf1ce G h a0 p1 = some (r, h1)) : Ct l G M_T5_append_cf1ce [.ref a0, .ref p1] h (some (.ref r)) h1 := by
  refine Ct_of (L := [some (.ref a0), some (.ref p1), none]) ok_T5_append_cf1ce (by decide +kernel) rfl rfl rfl (ρ := g_wA) (F := f_T5_append_cf1ce G h a0 p1) ?_ e rfl
  unfold f_T5_append_cf1ce
  refine X_aload_n rfl rfl rfl ?_
  refine X_ifnonnull (x := some p1) rfl rfl (fun _ _ => ?_) (fun z => nomatch z)
  refine X_aload_n rfl rfl rfl ?_
  refine X_kG_IR (M' := M_T0_length_8abf5) (nA := 0) (As := []) (st := []) (x := p1) rfl rfl (by decide +kernel) rfl rfl rfl rfl rfl rfl rfl rfl (fun _ e => ct_T0_length_8abf5  e) (fun v10 => ?_)
  refine X_istore_n rfl rfl rfl rfl ?_
  refine X_aload_n rfl rfl rfl ?_
  refine X_aload_n rfl rfl rfl ?_
  refine X_getI rfl rfl (fun v16 => ?_)
  refine X_iload_n rfl rfl rfl ?_
  refine X_iadd rfl rfl ?_
  refine X_kU_U (k1 := 0) (n1 := 0) (M' := M_T5_ensureCapacityInternal_d00df) (M0 := M_T5_ensureCapacityInternal_d00df) (nA := 1) (As := [.int (v16 + v10)]) (st := []) (b := a0) (ci := 13) rfl rfl (by decide +kernel) rfl rfl rfl rfl rfl rfl rfl (fun _ e => ct_T5_ensureCapacityInternal_d00df  e) (fun h21 => ?_)
  refine X_aload_n rfl rfl rfl ?_
  refine X_aload_n rfl rfl rfl ?_
  refine X_getI rfl rfl (fun v26 => ?_)
  refine X_aload_n rfl rfl rfl ?_
  refine X_kU_U (k1 := 0) (n1 := 0) (M' := M_T5_putStringAt_47b60) (M0 := M_T5_putStringAt_47b60) (nA := 2) (As := [.int v26, .ref p1]) (st := []) (b := a0) (ci := 13) rfl rfl (by decide +kernel) rfl rfl rfl rfl rfl rfl rfl (fun _ e => ct_T5_putStringAt_47b60  e) (fun h30 => ?_)
  refine X_aload_n rfl rfl rfl ?_
  refine X_dup rfl rfl rfl ?_
  refine X_getI rfl rfl (fun v35 => ?_)
  refine X_iload_n rfl rfl rfl ?_
  refine X_iadd rfl rfl ?_
  refine X_put rfl rfl rfl rfl rfl (fun h40 => ?_)
  refine X_aload_n rfl rfl rfl ?_
  exact X_aretA rfl rfl rfl rfl rfl rfl
def f_T4_append_15ec4 (G : gG) (h : gH) (a0 : Nat) (p1 : Nat) : Option (Nat × gH) :=
  bif g_is h a0 13 then
  (f_T5_append_cf1ce G h a0 p1).bind fun y2 =>
  some (a0, y2.2)
  else none
set_option maxRecDepth 100000 in
theorem ct_T4_append_15ec4 {l : Launch} {G : gG} {h : gH} {a0 : Nat} {p1 : Nat} {r : Nat} {h1 : gH} (e : f_T4_append_15ec4 G h a0 p1 = some (r, h1)) : Ct l G M_T4_append_15ec4 [.ref a0, .ref p1] h (some (.ref r)) h1 := by
  refine Ct_of (L := [some (.ref a0), some (.ref p1)]) ok_T4_append_15ec4 (by decide +kernel) rfl rfl rfl (ρ := g_wA) (F := f_T4_append_15ec4 G h a0 p1) ?_ e rfl
  unfold f_T4_append_15ec4
  refine X_aload_n rfl rfl rfl ?_
  refine X_aload_n rfl rfl rfl ?_
  refine X_kSU_A (k1 := 0) (n1 := 0) (M' := M_T5_append_cf1ce) (nA := 1) (As := [.ref p1]) (st := []) (b := a0) (ci := 13) rfl rfl (by decide +kernel) rfl rfl rfl rfl rfl rfl rfl (fun _ _ e => ct_T5_append_cf1ce  e) (fun y2 => ?_)
  refine X_pop rfl rfl rfl ?_
  refine X_aload_n rfl rfl rfl ?_
  exact X_aretA rfl rfl rfl rfl rfl rfl
def f_T5_isLatin1_aae02 (G : gG) (h : gH) (a0 : Nat) : Option (Int32) :=
  (if (1 : Int32) = 0 then
    some 0
  else
    (g_gI h a0 13 1).bind fun v7 =>
    (if v7 = 0 then
      some 1
    else
      some 0))
set_option maxRecDepth 100000 in
theorem ct_T5_isLatin1_aae02 {l : Launch} {G : gG} {h : gH} {a0 : Nat} {r : Int32} (e : f_T5_isLatin1_aae02 G h a0 = some r) : Ct l G M_T5_isLatin1_aae02 [.ref a0] h (some (.int r)) h := by
  refine Ct_of (L := [some (.ref a0)]) ok_T5_isLatin1_aae02 (by decide +kernel) rfl rfl rfl (ρ := (g_rI h)) (F := f_T5_isLatin1_aae02 G h a0) ?_ e rfl
  unfold f_T5_isLatin1_aae02
  refine X_gstat (C := "java/lang/String") (nm := "COMPACT_STRINGS") (ds := "Z") (v := .int 1) rfl rfl (by decide +kernel) g_zCS ?_
  refine X_bif_eq rfl rfl (fun _ => ?_) (fun _ => ?_)
  · refine X_iconst (v := 0) rfl rfl (by decide) ?_
    exact X_iret rfl rfl rfl rfl rfl rfl rfl
  · refine X_aload_n rfl rfl rfl ?_
    refine X_getI rfl rfl (fun v7 => ?_)
    refine X_bif_ne rfl rfl (fun _ => ?_) (fun _ => ?_)
    · refine X_iconst (v := 1) rfl rfl (by decide) ?_
      refine X_goto rfl rfl ?_
      exact X_iret rfl rfl rfl rfl rfl rfl rfl
    · refine X_iconst (v := 0) rfl rfl (by decide) ?_
      exact X_iret rfl rfl rfl rfl rfl rfl rfl
def f_T1_canEncode_fc78d (G : gG) (h : gH) (p0 : Int32) : Option (Int32) :=
  (if p0 ≤ 255 then
    some 1
  else
    some 0)
set_option maxRecDepth 100000 in
theorem ct_T1_canEncode_fc78d {l : Launch} {G : gG} {h : gH} {p0 : Int32} {r : Int32} (e : f_T1_canEncode_fc78d G h p0 = some r) : Ct l G M_T1_canEncode_fc78d [.int p0] h (some (.int r)) h := by
  refine Ct_of (L := [some (.int p0)]) ok_T1_canEncode_fc78d (by decide +kernel) rfl rfl rfl (ρ := (g_rI h)) (F := f_T1_canEncode_fc78d G h p0) ?_ e rfl
  unfold f_T1_canEncode_fc78d
  refine X_iload_n rfl rfl rfl ?_
  refine X_sipush (v := 255) rfl rfl (by decide) ?_
  refine X_bicmp_gt rfl rfl (fun _ => ?_) (fun _ => ?_)
  · refine X_iconst (v := 1) rfl rfl (by decide) ?_
    refine X_goto rfl rfl ?_
    exact X_iret rfl rfl rfl rfl rfl rfl rfl
  · refine X_iconst (v := 0) rfl rfl (by decide) ?_
    exact X_iret rfl rfl rfl rfl rfl rfl rfl
def f_T5_append_3fe6f (G : gG) (h : gH) (a0 : Nat) (p1 : Int32) : Option (Nat × gH) :=
  (g_gI h a0 13 3).bind fun v2 =>
  bif g_is h a0 13 then
  (f_T5_ensureCapacityInternal_d00df G h a0 (v2 + 1)).bind fun h7 =>
  bif g_is h7 a0 13 then
  (f_T5_isLatin1_aae02 G h7 a0).bind fun v11 =>
  (if v11 = 0 then
    none
  else
    (f_T1_canEncode_fc78d G h7 p1).bind fun v18 =>
    (if v18 = 0 then
      none
    else
      (g_gA h7 a0 13 0).bind fun v25 =>
      (g_gI h7 a0 13 3).bind fun v30 =>
      (g_put h7 a0 13 3 (.int (v30 + 1))).bind fun h36 =>
      (g_bst h36 v25 v30 ((Int32.toInt8 p1).toInt32)).bind fun h41 =>
      some (a0, h41)))
  else none
  else none
set_option maxRecDepth 100000 in
theorem ct_T5_append_3fe6f {l : Launch} {G : gG} {h : gH} {a0 : Nat} {p1 : Int32} {r : Nat} {h1 : gH} (e : f_T5_append_3fe6f G h a0 p1 = some (r, h1)) : Ct l G M_T5_append_3fe6f [.ref a0, .int p1] h (some (.ref r)) h1 := by
  refine Ct_of (L := [some (.ref a0), some (.int p1)]) ok_T5_append_3fe6f (by decide +kernel) rfl rfl rfl (ρ := g_wA) (F := f_T5_append_3fe6f G h a0 p1) ?_ e rfl
  unfold f_T5_append_3fe6f
  refine X_aload_n rfl rfl rfl ?_
  refine X_aload_n rfl rfl rfl ?_
  refine X_getI rfl rfl (fun v2 => ?_)
  refine X_iconst (v := 1) rfl rfl (by decide) ?_
  refine X_iadd rfl rfl ?_
  refine X_kU_U (k1 := 0) (n1 := 0) (M' := M_T5_ensureCapacityInternal_d00df) (M0 := M_T5_ensureCapacityInternal_d00df) (nA := 1) (As := [.int (v2 + 1)]) (st := []) (b := a0) (ci := 13) rfl rfl (by decide +kernel) rfl rfl rfl rfl rfl rfl rfl (fun _ e => ct_T5_ensureCapacityInternal_d00df  e) (fun h7 => ?_)
  refine X_aload_n rfl rfl rfl ?_
  refine X_kU_IR (M' := M_T5_isLatin1_aae02) (M0 := M_T5_isLatin1_aae02) (nA := 0) (As := []) (st := []) (b := a0) (ci := 13) rfl rfl (by decide +kernel) rfl rfl rfl rfl rfl rfl rfl (fun _ e => ct_T5_isLatin1_aae02  e) (fun v11 => ?_)
  refine X_bif_eq rfl rfl (fun _ => ?_) (fun _ => ?_)
  · exact X_none
  · refine X_iload_n rfl rfl rfl ?_
    refine X_callS_IR (M' := M_T1_canEncode_fc78d) (nA := 1) (As := [.int p1]) (st := []) rfl rfl (by decide +kernel) rfl rfl rfl rfl rfl rfl rfl (fun _ e => ct_T1_canEncode_fc78d  e) (fun v18 => ?_)
    refine X_bif_eq rfl rfl (fun _ => ?_) (fun _ => ?_)
    · exact X_none
    · refine X_aload_n rfl rfl rfl ?_
      refine X_getA rfl rfl (fun v25 => ?_)
      refine X_aload_n rfl rfl rfl ?_
      refine X_dup rfl rfl rfl ?_
      refine X_getI rfl rfl (fun v30 => ?_)
      refine X_dupx1 rfl rfl rfl rfl ?_
      refine X_iconst (v := 1) rfl rfl (by decide) ?_
      refine X_iadd rfl rfl ?_
      refine X_put rfl rfl rfl rfl rfl (fun h36 => ?_)
      refine X_iload_n rfl rfl rfl ?_
      refine X_i2b rfl rfl ?_
      refine X_bst rfl rfl (fun h41 => ?_)
      refine X_goto rfl rfl ?_
      refine X_aload_n rfl rfl rfl ?_
      exact X_aretA rfl rfl rfl rfl rfl rfl
def f_T4_append_cf468 (G : gG) (h : gH) (a0 : Nat) (p1 : Int32) : Option (Nat × gH) :=
  bif g_is h a0 13 then
  (f_T5_append_3fe6f G h a0 p1).bind fun y2 =>
  some (a0, y2.2)
  else none
set_option maxRecDepth 100000 in
theorem ct_T4_append_cf468 {l : Launch} {G : gG} {h : gH} {a0 : Nat} {p1 : Int32} {r : Nat} {h1 : gH} (e : f_T4_append_cf468 G h a0 p1 = some (r, h1)) : Ct l G M_T4_append_cf468 [.ref a0, .int p1] h (some (.ref r)) h1 := by
  refine Ct_of (L := [some (.ref a0), some (.int p1)]) ok_T4_append_cf468 (by decide +kernel) rfl rfl rfl (ρ := g_wA) (F := f_T4_append_cf468 G h a0 p1) ?_ e rfl
  unfold f_T4_append_cf468
  refine X_aload_n rfl rfl rfl ?_
  refine X_iload_n rfl rfl rfl ?_
  refine X_kSU_A (k1 := 0) (n1 := 0) (M' := M_T5_append_3fe6f) (nA := 1) (As := [.int p1]) (st := []) (b := a0) (ci := 13) rfl rfl (by decide +kernel) rfl rfl rfl rfl rfl rfl rfl (fun _ _ e => ct_T5_append_3fe6f  e) (fun y2 => ?_)
  refine X_pop rfl rfl rfl ?_
  refine X_aload_n rfl rfl rfl ?_
  exact X_aretA rfl rfl rfl rfl rfl rfl
def f_T5_getValue_6d5f1 (G : gG) (h : gH) (a0 : Nat) : Option (Nat) :=
  (g_gA h a0 13 0).bind fun v1 =>
  some v1
set_option maxRecDepth 100000 in
theorem ct_T5_getValue_6d5f1 {l : Launch} {G : gG} {h : gH} {a0 : Nat} {r : Nat} (e : f_T5_getValue_6d5f1 G h a0 = some r) : Ct l G M_T5_getValue_6d5f1 [.ref a0] h (some (.ref r)) h := by
  refine Ct_of (L := [some (.ref a0)]) ok_T5_getValue_6d5f1 (by decide +kernel) rfl rfl rfl (ρ := (g_rA h)) (F := f_T5_getValue_6d5f1 G h a0) ?_ e rfl
  unfold f_T5_getValue_6d5f1
  refine X_aload_n rfl rfl rfl ?_
  refine X_getA rfl rfl (fun v1 => ?_)
  exact X_aretR rfl rfl rfl rfl rfl rfl
def f_T5_length_8abf5 (G : gG) (h : gH) (a0 : Nat) : Option (Int32) :=
  (g_gI h a0 13 3).bind fun v1 =>
  some v1
set_option maxRecDepth 100000 in
theorem ct_T5_length_8abf5 {l : Launch} {G : gG} {h : gH} {a0 : Nat} {r : Int32} (e : f_T5_length_8abf5 G h a0 = some r) : Ct l G M_T5_length_8abf5 [.ref a0] h (some (.int r)) h := by
  refine Ct_of (L := [some (.ref a0)]) ok_T5_length_8abf5 (by decide +kernel) rfl rfl rfl (ρ := (g_rI h)) (F := f_T5_length_8abf5 G h a0) ?_ e rfl
  unfold f_T5_length_8abf5
  refine X_aload_n rfl rfl rfl ?_
  refine X_getI rfl rfl (fun v1 => ?_)
  exact X_iret rfl rfl rfl rfl rfl rfl rfl
def f_T4_length_8abf5 (G : gG) (h : gH) (a0 : Nat) : Option (Int32) :=
  bif g_is h a0 13 then
  (f_T5_length_8abf5 G h a0).bind fun v1 =>
  some v1
  else none
set_option maxRecDepth 100000 in
theorem ct_T4_length_8abf5 {l : Launch} {G : gG} {h : gH} {a0 : Nat} {r : Int32} (e : f_T4_length_8abf5 G h a0 = some r) : Ct l G M_T4_length_8abf5 [.ref a0] h (some (.int r)) h := by
  refine Ct_of (L := [some (.ref a0)]) ok_T4_length_8abf5 (by decide +kernel) rfl rfl rfl (ρ := (g_rI h)) (F := f_T4_length_8abf5 G h a0) ?_ e rfl
  unfold f_T4_length_8abf5
  refine X_aload_n rfl rfl rfl ?_
  refine X_kSU_IR (M' := M_T5_length_8abf5) (nA := 0) (As := []) (st := []) (b := a0) (ci := 13) rfl rfl (by decide +kernel) rfl rfl rfl rfl rfl rfl rfl (fun _ e => ct_T5_length_8abf5  e) (fun v1 => ?_)
  exact X_iret rfl rfl rfl rfl rfl rfl rfl
def f_T7_checkLength_df160 (G : gG) (h : gH) (p0 : Int32) (p1 : Int32) : Option Unit :=
  (if p1 < p0 then
    none
  else
    some ())
set_option maxRecDepth 100000 in
theorem ct_T7_checkLength_df160 {l : Launch} {G : gG} {h : gH} {p0 : Int32} {p1 : Int32} {r : Unit} (e : f_T7_checkLength_df160 G h p0 p1 = some r) : Ct l G M_T7_checkLength_df160 [.int p0, .int p1] h none h := by
  refine Ct_of (L := [some (.int p0), some (.int p1)]) ok_T7_checkLength_df160 (by decide +kernel) rfl rfl rfl (ρ := (g_rU h)) (F := f_T7_checkLength_df160 G h p0 p1) ?_ e rfl
  unfold f_T7_checkLength_df160
  refine X_iload_n rfl rfl rfl ?_
  refine X_iload_n rfl rfl rfl ?_
  refine X_bicmp_ge rfl rfl (fun _ => ?_) (fun _ => ?_)
  · exact X_none
  · exact X_vret rfl rfl rfl rfl rfl rfl
def f_T7_copyOfRangeByte_39247 (G : gG) (h : gH) (p0 : Nat) (p1 : Int32) (p2 : Int32) : Option (Nat × gH) :=
  (f_T7_checkLength_df160 G h p1 p2).bind fun _ =>
  (g_nwB h (p2 - p1) 16).bind fun h10 =>
  (g_slnA G h10 p0).bind fun v20 =>
  (g_cpyS G h10 p0 p1 h.1 0 (g_min (v20 - p1) (p2 - p1))).bind fun h27 =>
  some (h.1, h27)
set_option maxRecDepth 100000 in
theorem ct_T7_copyOfRangeByte_39247 {l : Launch} {G : gG} {h : gH} {p0 : Nat} {p1 : Int32} {p2 : Int32} {r : Nat} {h1 : gH} (e : f_T7_copyOfRangeByte_39247 G h p0 p1 p2 = some (r, h1)) : Ct l G M_T7_copyOfRangeByte_39247 [.ref p0, .int p1, .int p2] h (some (.ref r)) h1 := by
  refine Ct_of (L := [some (.ref p0), some (.int p1), some (.int p2), none, none]) ok_T7_copyOfRangeByte_39247 (by decide +kernel) rfl rfl rfl (ρ := g_wA) (F := f_T7_copyOfRangeByte_39247 G h p0 p1 p2) ?_ e rfl
  unfold f_T7_copyOfRangeByte_39247
  refine X_iload_n rfl rfl rfl ?_
  refine X_iload_n rfl rfl rfl ?_
  refine X_callS_UR (M' := M_T7_checkLength_df160) (nA := 2) (As := [.int p1, .int p2]) (st := []) rfl rfl (by decide +kernel) rfl rfl rfl rfl rfl rfl rfl (fun _ e => ct_T7_checkLength_df160  e) (fun _ => ?_)
  refine X_iload_n rfl rfl rfl ?_
  refine X_iload_n rfl rfl rfl ?_
  refine X_isub rfl rfl ?_
  refine X_istore_n rfl rfl rfl rfl ?_
  refine X_iload_n rfl rfl rfl ?_
  refine X_nwB (k1 := 1) (n1 := 16) (B := 16) rfl rfl rfl rfl rfl rfl rfl (fun h10 => ?_)
  refine X_astore rfl rfl rfl rfl ?_
  refine X_aload_n rfl rfl rfl ?_
  refine X_iload_n rfl rfl rfl ?_
  refine X_aload rfl rfl rfl ?_
  refine X_iconst (v := 0) rfl rfl (by decide) ?_
  refine X_aload_n rfl rfl rfl ?_
  refine X_gsln rfl rfl (fun v20 => ?_)
  refine X_iload_n rfl rfl rfl ?_
  refine X_isub rfl rfl ?_
  refine X_iload_n rfl rfl rfl ?_
  refine X_mmin rfl rfl (by decide +kernel) (by decide +kernel) (by decide +kernel) (by decide +kernel) rfl rfl rfl rfl ?_
  refine X_cpyS rfl rfl (by decide +kernel) (by decide +kernel) (by decide +kernel) (by decide +kernel) rfl (by decide) (fun h27 => ?_)
  refine X_aload rfl rfl rfl ?_
  exact X_aretR rfl rfl rfl rfl rfl rfl
def f_T7_copyOfRange_39247_b10 (G : gG) (h : gH) (l0 : Nat) (l1 : Int32) (l2 : Int32) : Option (Nat × gH) :=
  (f_T7_copyOfRangeByte_39247 G h l0 l1 l2).bind fun y13 =>
  some (y13.1, y13.2)
def f_T7_copyOfRange_39247 (G : gG) (h : gH) (p0 : Nat) (p1 : Int32) (p2 : Int32) : Option (Nat × gH) :=
  (if p1 = 0 then
    (g_slnA G h p0).bind fun v6 =>
    (if p2 = v6 then
      none
    else
      f_T7_copyOfRange_39247_b10 G h p0 p1 p2)
  else
    f_T7_copyOfRange_39247_b10 G h p0 p1 p2)
set_option maxRecDepth 100000 in
theorem b_T7_copyOfRange_39247_b10 {l : Launch} {G : gG} (h : gH) (l0 : Nat) (l1 : Int32) (l2 : Int32) : GX l G M_T7_copyOfRange_39247 (g_phi G g_wA (m_R M_T7_copyOfRange_39247).cells (m_R M_T7_copyOfRange_39247).slots) 0 0 10 [some (.ref l0), some (.int l1), some (.int l2)] [] h (f_T7_copyOfRange_39247_b10 G h l0 l1 l2) := by
  unfold f_T7_copyOfRange_39247_b10
  refine X_aload_n rfl rfl rfl ?_
  refine X_iload_n rfl rfl rfl ?_
  refine X_iload_n rfl rfl rfl ?_
  refine X_kS_A (k1 := 1) (n1 := 16) (M' := M_T7_copyOfRangeByte_39247) (nA := 3) (As := [.ref l0, .int l1, .int l2]) (st := []) rfl rfl (by decide +kernel) rfl rfl rfl rfl rfl rfl rfl (fun _ _ e => ct_T7_copyOfRangeByte_39247  e) (fun y13 => ?_)
  exact X_aretR rfl rfl rfl rfl rfl rfl
set_option maxRecDepth 100000 in
theorem ct_T7_copyOfRange_39247 {l : Launch} {G : gG} {h : gH} {p0 : Nat} {p1 : Int32} {p2 : Int32} {r : Nat} {h1 : gH} (e : f_T7_copyOfRange_39247 G h p0 p1 p2 = some (r, h1)) : Ct l G M_T7_copyOfRange_39247 [.ref p0, .int p1, .int p2] h (some (.ref r)) h1 := by
  refine Ct_of (L := [some (.ref p0), some (.int p1), some (.int p2)]) ok_T7_copyOfRange_39247 (by decide +kernel) rfl rfl rfl (ρ := g_wA) (F := f_T7_copyOfRange_39247 G h p0 p1 p2) ?_ e rfl
  unfold f_T7_copyOfRange_39247
  refine X_iload_n rfl rfl rfl ?_
  refine X_bif_ne rfl rfl (fun _ => ?_) (fun _ => ?_)
  · refine X_iload_n rfl rfl rfl ?_
    refine X_aload_n rfl rfl rfl ?_
    refine X_gsln rfl rfl (fun v6 => ?_)
    refine X_bicmp_eq rfl rfl (fun _ => ?_) (fun _ => ?_)
    · exact X_none
    · exact X_sub (g_sub_s (g_sub_s (g_sub_s g_sub_0))) (b_T7_copyOfRange_39247_b10  _ _ _ _)
  · exact X_sub (g_sub_s (g_sub_s (g_sub_s g_sub_0))) (b_T7_copyOfRange_39247_b10  _ _ _ _)
def f_T0_init_db425 (G : gG) (h : gH) (a0 : Nat) (p1 : Nat) (p2 : Option Nat) : Option gH :=
  bif g_is h p1 13 then
  (f_T5_getValue_6d5f1 G h p1).bind fun v5 =>
  bif g_is h p1 13 then
  (f_T4_length_8abf5 G h p1).bind fun v10 =>
  bif g_is h p1 13 then
  (f_T5_isLatin1_aae02 G h p1).bind fun v16 =>
  (if v16 = 0 then
    none
  else
    (g_put h a0 14 1 (.int 0)).bind fun h24 =>
    (f_T7_copyOfRange_39247 G h24 v5 0 v10).bind fun y32 =>
    (g_put y32.2 a0 14 0 (.ref y32.1)).bind fun h35 =>
    some h35)
  else none
  else none
  else none
set_option maxRecDepth 100000 in
theorem ct_T0_init_db425 {l : Launch} {G : gG} {h : gH} {a0 : Nat} {p1 : Nat} {p2 : Option Nat} {h1 : gH} (e : f_T0_init_db425 G h a0 p1 p2 = some h1) : Ct l G M_T0_init_db425 [.ref a0, .ref p1, va_rf p2] h none h1 := by
  refine Ct_of (L := [some (.ref a0), some (.ref p1), some (va_rf p2), none, none]) ok_T0_init_db425 (by decide +kernel)  (by cases p2 <;> rfl) rfl  (by cases p2 <;> rfl) (ρ := g_wU) (F := f_T0_init_db425 G h a0 p1 p2) ?_ e rfl
  unfold f_T0_init_db425
  refine X_sub (g_sub_s (g_sub_s (g_sub_n (g_sub_n (g_sub_n g_sub_0))))) ?_
  refine X_aload_n rfl rfl rfl ?_
  refine X_objInit rfl rfl (by decide +kernel) (by decide +kernel) (by decide +kernel) rfl rfl ?_
  refine X_aload_n rfl rfl rfl ?_
  refine X_kU_AR (M' := M_T5_getValue_6d5f1) (M0 := M_T5_getValue_6d5f1) (nA := 0) (As := []) (st := []) (b := p1) (ci := 13) rfl rfl (by decide +kernel) rfl rfl rfl rfl rfl rfl rfl (fun _ e => ct_T5_getValue_6d5f1  e) (fun v5 => ?_)
  refine X_astore_n rfl rfl rfl rfl ?_
  refine X_aload_n rfl rfl rfl ?_
  refine X_kU_IR (M' := M_T4_length_8abf5) (M0 := M_T5_length_8abf5) (nA := 0) (As := []) (st := []) (b := p1) (ci := 13) rfl rfl (by decide +kernel) rfl rfl rfl rfl rfl rfl rfl (fun _ e => ct_T4_length_8abf5  e) (fun v10 => ?_)
  refine X_istore rfl rfl rfl rfl ?_
  refine X_aload_n rfl rfl rfl ?_
  refine X_kU_IR (M' := M_T5_isLatin1_aae02) (M0 := M_T5_isLatin1_aae02) (nA := 0) (As := []) (st := []) (b := p1) (ci := 13) rfl rfl (by decide +kernel) rfl rfl rfl rfl rfl rfl rfl (fun _ e => ct_T5_isLatin1_aae02  e) (fun v16 => ?_)
  refine X_bif_eq rfl rfl (fun _ => ?_) (fun _ => ?_)
  · exact X_none
  · refine X_aload_n rfl rfl rfl ?_
    refine X_iconst (v := 0) rfl rfl (by decide) ?_
    refine X_putF rfl rfl rfl rfl rfl rfl rfl (fun h24 => ?_)
    refine X_aload_n rfl rfl rfl ?_
    refine X_aload_n rfl rfl rfl ?_
    refine X_iconst (v := 0) rfl rfl (by decide) ?_
    refine X_iload rfl rfl rfl ?_
    refine X_kS_A (k1 := 1) (n1 := 16) (M' := M_T7_copyOfRange_39247) (nA := 3) (As := [.ref v5, .int 0, .int v10]) (st := [.ref a0]) rfl rfl (by decide +kernel) rfl rfl rfl rfl rfl rfl rfl (fun _ _ e => ct_T7_copyOfRange_39247  e) (fun y32 => ?_)
    refine X_putF rfl rfl rfl rfl rfl rfl rfl (fun h35 => ?_)
    refine X_goto rfl rfl ?_
    exact X_vret rfl rfl rfl rfl rfl rfl
def f_T0_init_81219 (G : gG) (h : gH) (a0 : Nat) (p1 : Nat) : Option gH :=
  (f_T0_init_db425 G h a0 p1 none).bind fun h3 =>
  some h3
set_option maxRecDepth 100000 in
theorem ct_T0_init_81219 {l : Launch} {G : gG} {h : gH} {a0 : Nat} {p1 : Nat} {h1 : gH} (e : f_T0_init_81219 G h a0 p1 = some h1) : Ct l G M_T0_init_81219 [.ref a0, .ref p1] h none h1 := by
  refine Ct_of (L := [some (.ref a0), some (.ref p1)]) ok_T0_init_81219 (by decide +kernel) rfl rfl rfl (ρ := g_wU) (F := f_T0_init_81219 G h a0 p1) ?_ e rfl
  unfold f_T0_init_81219
  refine X_aload_n rfl rfl rfl ?_
  refine X_aload_n rfl rfl rfl ?_
  refine X_null rfl rfl ?_
  refine X_rfl (st' := va_rf none :: [.ref p1, .ref a0]) rfl ?_
  refine X_kI_U (k1 := 1) (n1 := 16) (M' := M_T0_init_db425) (nA := 2) (As := [.ref p1, va_rf none]) (st := []) (b := a0) rfl rfl (by decide +kernel) rfl rfl rfl rfl rfl rfl rfl (fun _ e => ct_T0_init_db425  e) (fun h3 => ?_)
  exact X_vret rfl rfl rfl rfl rfl rfl
def f_T4_toString_0e30d (G : gG) (h : gH) (a0 : Nat) : Option (Nat × gH) :=
  (g_mk h (.inr (14, g_dfl 14))).bind fun h0 =>
  (f_T0_init_81219 G h0 h.1 a0).bind fun h5 =>
  some (h.1, h5)
set_option maxRecDepth 100000 in
theorem ct_T4_toString_0e30d {l : Launch} {G : gG} {h : gH} {a0 : Nat} {r : Nat} {h1 : gH} (e : f_T4_toString_0e30d G h a0 = some (r, h1)) : Ct l G M_T4_toString_0e30d [.ref a0] h (some (.ref r)) h1 := by
  refine Ct_of (L := [some (.ref a0)]) ok_T4_toString_0e30d (by decide +kernel) rfl rfl rfl (ρ := g_wA) (F := f_T4_toString_0e30d G h a0) ?_ e rfl
  unfold f_T4_toString_0e30d
  refine X_newO (k1 := 1) (n1 := 4) rfl rfl rfl (by decide +kernel) rfl rfl (fun h0 => ?_)
  refine X_dup rfl rfl rfl ?_
  refine X_aload_n rfl rfl rfl ?_
  refine X_kI_U (k1 := 2) (n1 := 20) (M' := M_T0_init_81219) (nA := 1) (As := [.ref a0]) (st := [.ref h.1]) (b := h.1) rfl rfl (by decide +kernel) rfl rfl rfl rfl rfl rfl rfl (fun _ e => ct_T0_init_81219  e) (fun h5 => ?_)
  exact X_aretA rfl rfl rfl rfl rfl rfl
