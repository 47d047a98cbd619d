/-! the heap's rows of GX -/
def g_ty (ci : Nat) : Nat → FieldType := match ci with
  | 0 => tyX0 | 1 => tyX1 | 2 => tyX2 | 3 => tyX3 | 4 => tyX4 | 5 => tyX5 | 6 => tyX6 | 7 => tyX7 | 8 => tyX8 | 9 => tyX9 | 10 => tyX10 | 11 => tyX11 | 12 => tyX12 | 13 => tyJ4 | _ => tyJ0
def g_cn (ci : Nat) : String := match vwCl[ci]? with
  | some q => q.1
  | none => ""
def g_dc (ci j : Nat) : Bool := match vwCl[ci]? with
  | some q => decide ((q.2.1 j).1 = q.1)
  | none => false
def g_fin (ci j : Nat) : Bool := match vwCl[ci]? with
  | some q => (q.2.1 j).2.2.2
  | none => true
theorem g_good0 : ∀ w ∈ wsX00, goodWord w = true := List.all_eq_true.mp (by decide +kernel)
theorem g_good1 : ∀ w ∈ wsX10, goodWord w = true := List.all_eq_true.mp (by decide +kernel)
theorem g_good2 : ∀ w ∈ wsX20, goodWord w = true := List.all_eq_true.mp (by decide +kernel)
theorem g_good3 : ∀ w ∈ wsX30, goodWord w = true := List.all_eq_true.mp (by decide +kernel)
theorem g_good4 : ∀ w ∈ wsX40, goodWord w = true := List.all_eq_true.mp (by decide +kernel)
theorem g_good5 : ∀ w ∈ wsX50, goodWord w = true := List.all_eq_true.mp (by decide +kernel)
theorem g_good6 : ∀ w ∈ wsX60, goodWord w = true := List.all_eq_true.mp (by decide +kernel)
theorem g_good7 : ∀ w ∈ wsX70, goodWord w = true := List.all_eq_true.mp (by decide +kernel)
theorem g_good8 : ∀ w ∈ wsX80, goodWord w = true := List.all_eq_true.mp (by decide +kernel)
theorem g_good9 : ∀ w ∈ wsX90, goodWord w = true := List.all_eq_true.mp (by decide +kernel)
theorem g_good10 : ∀ w ∈ wsX100, goodWord w = true := List.all_eq_true.mp (by decide +kernel)
theorem g_good11 : ∀ w ∈ wsX110, goodWord w = true := List.all_eq_true.mp (by decide +kernel)
theorem g_good12 : ∀ w ∈ wsX120, goodWord w = true := List.all_eq_true.mp (by decide +kernel)
theorem g_goodJ4 : ∀ w ∈ wsJ40, goodWord w = true := List.all_eq_true.mp (by decide +kernel)
theorem g_goodJ0 : ∀ w ∈ wsJ00, goodWord w = true := List.all_eq_true.mp (by decide +kernel)
theorem g_cls {ci : Nat} {C : String} {T : u_T} {N : Nat} (h : vwCl[ci]? = some (C, T, N)) : (∀ w ∈ u_ws C T N, w ∈ lw_tbl ∧ goodWord w = true) ∧ (∀ k, k < N → parseFieldDescriptor (T k).2.2.1 = some (g_ty ci k)) ∧ (∀ a, a < N → ∀ b, b < N → a ≠ b → (T a).2.1 ≠ (T b).2.1) := by
  match ci, h with
  | 0, h => cases h; exact ⟨fun w hw => ⟨inX0 w hw, g_good0 w hw⟩, tyX0_ok, nmX0⟩
  | 1, h => cases h; exact ⟨fun w hw => ⟨inX1 w hw, g_good1 w hw⟩, tyX1_ok, nmX1⟩
  | 2, h => cases h; exact ⟨fun w hw => ⟨inX2 w hw, g_good2 w hw⟩, tyX2_ok, nmX2⟩
  | 3, h => cases h; exact ⟨fun w hw => ⟨inX3 w hw, g_good3 w hw⟩, tyX3_ok, nmX3⟩
  | 4, h => cases h; exact ⟨fun w hw => ⟨inX4 w hw, g_good4 w hw⟩, tyX4_ok, nmX4⟩
  | 5, h => cases h; exact ⟨fun w hw => ⟨inX5 w hw, g_good5 w hw⟩, tyX5_ok, nmX5⟩
  | 6, h => cases h; exact ⟨fun w hw => ⟨inX6 w hw, g_good6 w hw⟩, tyX6_ok, nmX6⟩
  | 7, h => cases h; exact ⟨fun w hw => ⟨inX7 w hw, g_good7 w hw⟩, tyX7_ok, nmX7⟩
  | 8, h => cases h; exact ⟨fun w hw => ⟨inX8 w hw, g_good8 w hw⟩, tyX8_ok, nmX8⟩
  | 9, h => cases h; exact ⟨fun w hw => ⟨inX9 w hw, g_good9 w hw⟩, tyX9_ok, nmX9⟩
  | 10, h => cases h; exact ⟨fun w hw => ⟨inX10 w hw, g_good10 w hw⟩, tyX10_ok, nmX10⟩
  | 11, h => cases h; exact ⟨fun w hw => ⟨inX11 w hw, g_good11 w hw⟩, tyX11_ok, nmX11⟩
  | 12, h => cases h; exact ⟨fun w hw => ⟨inX12 w hw, g_good12 w hw⟩, tyX12_ok, nmX12⟩
  | 13, h => cases h; exact ⟨fun w hw => ⟨inJ4 w hw, g_goodJ4 w hw⟩, tyJ4_ok, nmJ4⟩
  | 14, h => cases h; exact ⟨fun w hw => ⟨inJ0 w hw, g_goodJ0 w hw⟩, tyJ0_ok, nmJ0⟩
  | k + 15, h => simp [vwCl] at h
theorem g_fld {own : String} {idx ci j : Nat} (h : g_fldOk own idx ci j = true) : ∃ (C : String) (T : u_T) (N : Nat), vwCl[ci]? = some (C, T, N) ∧ j < N ∧ Cond.fieldLink own idx (T j).1 (T j).2.1 (T j).2.2.1 ∈ lw_tbl := by
  unfold g_fldOk at h
  cases hc : vwCl[ci]? with
  | none => rw [hc] at h; cases h
  | some q =>
    obtain ⟨C, T, N⟩ := q
    rw [hc] at h
    simp only [Bool.and_eq_true, decide_eq_true_eq] at h
    exact ⟨C, T, N, rfl, h.1, h.2⟩
/-- the object at a, of the class ci: its field j -/
def g_fd (h : gH) (a ci j : Nat) : Option Value := match h.2 a with
  | some (.inr (c, fs)) => bif Nat.beq c ci then fs[j]? else none
  | _ => none
def g_gI (h : gH) (a ci j : Nat) : Option Int32 := match g_fd h a ci j with
  | some (.int v) => some v
  | _ => none
def g_gA (h : gH) (a ci j : Nat) : Option Nat := match g_fd h a ci j with
  | some (.ref v) => some v
  | _ => none
def g_is (h : gH) (a ci : Nat) : Bool := match h.2 a with
  | some (.inr (c, _)) => Nat.beq c ci
  | _ => false
def g_put (h : gH) (a ci j : Nat) (v : Value) : Option gH := match h.2 a with
  | some (.inr (c, fs)) => bif Nat.beq c ci && Nat.blt j fs.length then some (g_set h a (.inr (ci, fs.set j v))) else none
  | _ => none
/-- a boolean is 0 or 1 -/
def g_z (v : Int32) : Option Int32 := if v = 0 ∨ v = 1 then some v else none
def g_aI (h : gH) (a t : Nat) : Option (Nat × (Nat → Int32)) := match h.2 a with
  | some (.inl (t', n, .inl f)) => bif Nat.beq t' t then some (n, f) else none
  | _ => none
def g_aL (h : gH) (a : Nat) : Option (Nat × (Nat → Int64)) := match h.2 a with
  | some (.inl (t', n, .inr (.inl f))) => bif Nat.beq t' 2 then some (n, f) else none
  | _ => none
def g_aQ (h : gH) (a t : Nat) : Option (Nat × (Nat → Option Nat)) := match h.2 a with
  | some (.inl (t', n, .inr (.inr (.inr (.inr f))))) => bif Nat.beq t' t then some (n, f) else none
  | _ => none
def g_ix (i : Int32) (n : Nat) : Option Nat := if i < 0 ∨ n ≤ i.toNatClampNeg then none else some i.toNatClampNeg
def g_ald (h : gH) (a : Nat) (i : Int32) : Option Int32 := (g_aI h a 0).bind fun x => (g_ix i x.1).map x.2
def g_bld (h : gH) (a : Nat) (i : Int32) : Option Int32 := (g_aI h a 1).bind fun x => (g_ix i x.1).map x.2
def g_lld (h : gH) (a : Nat) (i : Int32) : Option Int64 := (g_aL h a).bind fun x => (g_ix i x.1).map x.2
def g_qld (h : gH) (a t : Nat) (i : Int32) : Option (Option Nat) := (g_aQ h a t).bind fun x => (g_ix i x.1).map x.2
def g_ast (h : gH) (a : Nat) (i x : Int32) : Option gH := (g_aI h a 0).bind fun y => (g_ix i y.1).map fun j => g_set h a (.inl (0, y.1, .inl (upd y.2 j x)))
def g_bst (h : gH) (a : Nat) (i x : Int32) : Option gH := (g_aI h a 1).bind fun y => (g_ix i y.1).map fun j => g_set h a (.inl (1, y.1, .inl (upd y.2 j x.toInt8.toInt32)))
def g_lst (h : gH) (a : Nat) (i : Int32) (x : Int64) : Option gH := (g_aL h a).bind fun y => (g_ix i y.1).map fun j => g_set h a (.inl (2, y.1, .inr (.inl (vp_updL y.2 j x))))
def g_qst (h : gH) (a t : Nat) (i : Int32) (v : Nat) : Option gH := (g_aQ h a t).bind fun y => (g_ix i y.1).map fun j => g_set h a (.inl (t, y.1, .inr (.inr (.inr (.inr (va_up y.2 j (some v)))))))
def g_aln (h : gH) (a : Nat) : Option Int32 := match h.2 a with
  | some (.inl (t, n, _)) => bif Nat.blt t 10 then some (Int32.ofNat n) else none
  | _ => none
theorem g_fd_some {h : gH} {a ci j : Nat} {v : Value} (e : g_fd h a ci j = some v) : ∃ fs, h.2 a = some (.inr (ci, fs)) ∧ fs[j]? = some v := by
  unfold g_fd at e
  split at e
  · next c fs hc =>
    cases hb : Nat.beq c ci with
    | false => rw [hb] at e; cases e
    | true =>
      rw [hb] at e
      cases Nat.eq_of_beq_eq_true hb
      exact ⟨fs, hc, e⟩
  · cases e
theorem g_gI_some {h : gH} {a ci j : Nat} {v : Int32} (e : g_gI h a ci j = some v) : ∃ fs, h.2 a = some (.inr (ci, fs)) ∧ fs[j]? = some (.int v) := by
  unfold g_gI at e
  split at e
  · next x hx => cases e; exact g_fd_some hx
  · cases e
theorem g_gA_some {h : gH} {a ci j v : Nat} (e : g_gA h a ci j = some v) : ∃ fs, h.2 a = some (.inr (ci, fs)) ∧ fs[j]? = some (.ref v) := by
  unfold g_gA at e
  split at e
  · next x hx => cases e; exact g_fd_some hx
  · cases e
theorem g_is_some {h : gH} {a ci : Nat} (e : g_is h a ci = true) : ∃ fs, h.2 a = some (.inr (ci, fs)) := by
  unfold g_is at e
  split at e
  · next c fs hc => cases Nat.eq_of_beq_eq_true e; exact ⟨fs, hc⟩
  · cases e
theorem g_put_some {h h' : gH} {a ci j : Nat} {v : Value} (e : g_put h a ci j v = some h') : ∃ fs, h.2 a = some (.inr (ci, fs)) ∧ j < fs.length ∧ h' = g_set h a (.inr (ci, fs.set j v)) := by
  unfold g_put at e
  split at e
  · next c fs hc =>
    cases hb : Nat.beq c ci && Nat.blt j fs.length with
    | false => rw [hb] at e; cases e
    | true =>
      rw [hb] at e
      rw [Bool.and_eq_true] at hb
      cases Nat.eq_of_beq_eq_true hb.1
      cases e
      exact ⟨fs, hc, Nat.blt_eq.mp hb.2, rfl⟩
  · cases e
theorem g_aI_some {h : gH} {a t n : Nat} {f : Nat → Int32} (e : g_aI h a t = some (n, f)) : h.2 a = some (.inl (t, n, .inl f)) := by
  unfold g_aI at e
  split at e
  · next t' n' f' hc =>
    cases hb : Nat.beq t' t with
    | false => rw [hb] at e; cases e
    | true => rw [hb] at e; cases Nat.eq_of_beq_eq_true hb; cases e; exact hc
  · cases e
theorem g_aL_some {h : gH} {a n : Nat} {f : Nat → Int64} (e : g_aL h a = some (n, f)) : h.2 a = some (.inl (2, n, .inr (.inl f))) := by
  unfold g_aL at e
  split at e
  · next t' n' f' hc =>
    cases hb : Nat.beq t' 2 with
    | false => rw [hb] at e; cases e
    | true => rw [hb] at e; cases Nat.eq_of_beq_eq_true hb; cases e; exact hc
  · cases e
theorem g_aQ_some {h : gH} {a t n : Nat} {f : Nat → Option Nat} (e : g_aQ h a t = some (n, f)) : h.2 a = some (.inl (t, n, .inr (.inr (.inr (.inr f))))) := by
  unfold g_aQ at e
  split at e
  · next t' n' f' hc =>
    cases hb : Nat.beq t' t with
    | false => rw [hb] at e; cases e
    | true => rw [hb] at e; cases Nat.eq_of_beq_eq_true hb; cases e; exact hc
  · cases e
theorem g_ix_some {i : Int32} {n j : Nat} (e : g_ix i n = some j) : vp_in i n ∧ j = i.toNatClampNeg := by
  unfold g_ix at e
  split at e
  · cases e
  · next hc => cases e; exact ⟨hc, rfl⟩
theorem g_P1 {G : gG} {h : gH} {H : Heap} {a : Nat} {o : Nat × List Value} (hM : g_M G h H) (ha : h.2 a = some (.inr o)) : va_P (g_D G) vwCl [(a, .inr o)] H := by
  intro k q hk
  cases k with
  | zero => cases hk; exact (hM.2.2 a _ ha).2
  | succ k => simp at hk
theorem g_PA {G : gG} {h : gH} {H : Heap} {a t : Nat} {x : vp_A} (hM : g_M G h H) (ha : h.2 a = some (.inl (t, x))) : va_P (g_D G) vwCl [(a, .inl (g_c G t, x))] H := by
  intro k q hk
  cases k with
  | zero => cases hk; exact (hM.2.2 a _ ha).2
  | succ k => simp at hk
section GXH
variable {α : Type} {l : Launch} {G : gG} {M : gMt} {Φ : α → Method → Code → State → Array Value → List Frame → State → Prop} {k n pc nx x1 x2 : Nat} {L : List (Option Value)} {st : List Value} {h : gH} {F : Option α}
theorem X_fd {a idx ci j : Nat} {v : Value} (hd : g_lk (m_code M) pc = some (.getfield idx, nx, ci, j)) (hn : nx = pc + 3) {fs : List Value} (ha : h.2 a = some (.inr (ci, fs))) (hv : fs[j]? = some v) (kk : GX l G M Φ k n nx L (v :: st) h F) : GX l G M Φ k n pc L (.ref a :: st) h F := by
  intro r hr p e s m args below meth c H locs A B hl hM hS
  have hg := g_dec B.2.2.2.2.2.2.2.2.2 hd hn
  have ht := g_lk_ent _ B.2.2.2.2.2.2.2.2.2 hd
  unfold g_ent at ht
  simp only [Bool.and_eq_true, decide_eq_true_eq] at ht
  obtain ⟨C, T, N, hc, hj, hlk⟩ := g_fld ht.2
  obtain ⟨hw, hty, hnm⟩ := g_cls hc
  have q := kk r hr p e s m args below meth c H locs A B hl hM hS
  rw [hn] at q
  exact va_get (D := g_D G) (cl := vwCl) (tys := g_tl (g_c G)) (ws := [(a, .inr (ci, fs))]) (C := C) (T := T) (N := N) (Ts := u_ws C T N) B.1 B.2.1 (fun w h => B.2.2.2.2.2.2.1 w (hw w h).1 (hw w h).2) (fun w h => h) B.2.2.2.2.2.1 B.2.2.2.2.2.2.2.1.1 (g_P1 hM ha) 0 rfl hc j hj (B.2.2.2.2.2.2.1 _ hlk rfl) (fun _ h9 => h9) hv hg q
theorem X_getI {a idx ci j : Nat} {K : Int32 → Option α} (hd : g_lk (m_code M) pc = some (.getfield idx, nx, ci, j)) (hn : nx = pc + 3) (kk : ∀ v, GX l G M Φ k n nx L (.int v :: st) h (K v)) : GX l G M Φ k n pc L (.ref a :: st) h ((g_gI h a ci j).bind K) := by
  refine X_bind fun v hv => ?_
  obtain ⟨fs, h1, h2⟩ := g_gI_some hv
  exact X_fd hd hn h1 h2 (kk v)
theorem X_getA {a idx ci j : Nat} {K : Nat → Option α} (hd : g_lk (m_code M) pc = some (.getfield idx, nx, ci, j)) (hn : nx = pc + 3) (kk : ∀ v, GX l G M Φ k n nx L (.ref v :: st) h (K v)) : GX l G M Φ k n pc L (.ref a :: st) h ((g_gA h a ci j).bind K) := by
  refine X_bind fun v hv => ?_
  obtain ⟨fs, h1, h2⟩ := g_gA_some hv
  exact X_fd hd hn h1 h2 (kk v)
theorem g_putH {fs : List Value} {a ci j : Nat} {v : Value} {H H1 : Heap} {C : String} {T : u_T} {N : Nat} {cell : Cell} {sl : Nat} (hM : g_M G h H) (ha : h.2 a = some (.inr (ci, fs))) (hj : j < fs.length) (hc : vwCl[ci]? = some (C, T, N)) (hap : ∀ x y, x < N → y < N → x ≠ y → (g_D G).2 ci x ≠ (g_D G).2 ci y) (hjN : j < N) (q2 : cell.cls = (g_D G).1 ci) (q3 : cell.vm = .none) (q4 : ∀ k, k < N → cell.slots[(g_D G).2 ci k]? = some (vp_V fs k)) (hsl : sl = (g_D G).2 ci j)
    (e1 : H1[a]? = some (cell.setSlot sl v)) (z : H1.size = H.size) (o : ∀ q, q ≠ a → H1[q]? = H[q]?) : g_M G (g_set h a (.inr (ci, fs.set j v))) H1 := by
  subst hsl
  refine hM.set ha ?_ z o
  exact ⟨_, hc, t_OB.to (V := updV (vp_V fs) j v) ⟨_, e1, q2, q3, t_set q4 hap hjN v⟩ (fun i _ => vp_updV_set hj v i)⟩
theorem X_put {a idx ci j : Nat} {v : Value} {K : gH → Option α} (hd : g_lk (m_code M) pc = some (.putfield idx, nx, ci, j)) (hn : nx = pc + 3) (hfin : g_fin ci j = false) (hnv : narrow (g_ty ci j) v = v) (hfit : fits (g_ty ci j) v = true) (kk : ∀ h', GX l G M Φ k n nx L st h' (K h')) : GX l G M Φ k n pc L (v :: .ref a :: st) h ((g_put h a ci j v).bind K) := by
  refine X_bind fun h' hv => ?_
  obtain ⟨fs, ha, hj, rfl⟩ := g_put_some hv
  intro r hr p e s m args below meth c H locs A B hl hM hS
  have hg := g_dec B.2.2.2.2.2.2.2.2.2 hd hn
  have ht := g_lk_ent _ B.2.2.2.2.2.2.2.2.2 hd
  unfold g_ent at ht
  simp only [Bool.and_eq_true, decide_eq_true_eq] at ht
  obtain ⟨C, T, N, hc, hjN, hlk⟩ := g_fld ht.2
  obtain ⟨hw, hty, hnm⟩ := g_cls hc
  have hts : ∀ w ∈ u_ws C T N, w.before args s = true := fun w h => B.2.2.2.2.2.2.1 w (hw w h).1 (hw w h).2
  have hK := B.2.2.2.2.2.2.2.1.1
  have hown := B.2.2.2.2.2.1
  have hap := va_apart (own := (m_y M).cls) hts (fun w h => h) (g_ty ci) hty hnm hK hc
  obtain ⟨r9, h1, cell, q1, q2, q3, q4⟩ := (hM.2.2 a _ ha).2
  have hr9 : r9 = (C, T, N) := Option.some.inj (h1.symm.trans hc)
  subst hr9
  obtain ⟨hSl, hfc, kC, hkC, hkind⟩ := hK.1 ci _ hc
  obtain ⟨cf, kf, fi, f, hi, hsl⟩ := hSl j hjN
  have hf0 : (T j).2.2.2 = false := by
    unfold g_fin at hfin
    rw [hc] at hfin
    exact hfin
  have hlay := hts _ (u_in_lay hjN)
  unfold u_lay at hlay
  rw [if_neg (by rw [hf0]; decide)] at hlay
  have hst := (u_facts hfc hkC (u_lays hts (fun w h => h) hjN) hi).1
  have h6 := u_store hfc hkC hkind hlay hi (hty j hjN) hnv hfit
  refine W.putK B.1 B.2.1 (f := f) ⟨hown, B.2.2.2.2.2.2.1 _ hlk rfl, ⟨_, _, _, hi⟩, hst⟩ (by rw [q2]; exact h6) q1 q3 (by rw [hsl]; exact k2_hasslot (q4 j hjN)) rfl rfl hg fun H' e1 e2 e3 => ?_
  have q := kk _ r hr p e s m args below meth c H' (locs ++ [⟨a, f.slot⟩]) A B hl (g_putH hM ha hj hc hap hjN q2 q3 q4 hsl e1 e2 e3) (g_S.put hS e2 e3 (hM.2.2 a _ ha).1)
  rw [hn] at q
  exact q
theorem X_putF {a idx ci j : Nat} {v : Value} {K : gH → Option α} (hd : g_lk (m_code M) pc = some (.putfield idx, nx, ci, j)) (hn : nx = pc + 3) (hfin : g_fin ci j = true) (hin : (m_y M).name = "<init>") (hcn : g_cn ci = (m_y M).cls) (hnv : narrow (g_ty ci j) v = v) (hfit : fits (g_ty ci j) v = true) (kk : ∀ h', GX l G M Φ k n nx L st h' (K h')) (hdc : g_dc ci j = true := by decide +kernel) : GX l G M Φ k n pc L (v :: .ref a :: st) h ((g_put h a ci j v).bind K) := by
  refine X_bind fun h' hv => ?_
  obtain ⟨fs, ha, hj, rfl⟩ := g_put_some hv
  intro r hr p e s m args below meth c H locs A B hl hM hS
  have hg := g_dec B.2.2.2.2.2.2.2.2.2 hd hn
  have ht := g_lk_ent _ B.2.2.2.2.2.2.2.2.2 hd
  unfold g_ent at ht
  simp only [Bool.and_eq_true, decide_eq_true_eq] at ht
  obtain ⟨C, T, N, hc, hjN, hlk⟩ := g_fld ht.2
  obtain ⟨hw, hty, hnm⟩ := g_cls hc
  have hts : ∀ w ∈ u_ws C T N, w.before args s = true := fun w h => B.2.2.2.2.2.2.1 w (hw w h).1 (hw w h).2
  have hK := B.2.2.2.2.2.2.2.1.1
  have hown := B.2.2.2.2.2.1
  have hap := va_apart (own := (m_y M).cls) hts (fun w h => h) (g_ty ci) hty hnm hK hc
  obtain ⟨r9, h1, cell, q1, q2, q3, q4⟩ := (hM.2.2 a _ ha).2
  have hr9 : r9 = (C, T, N) := Option.some.inj (h1.symm.trans hc)
  subst hr9
  obtain ⟨hSl, hfc, kC, hkC, hkind⟩ := hK.1 ci _ hc
  obtain ⟨cf, kf, fi, f, hi, hsl⟩ := hSl j hjN
  have hf0 : (T j).2.2.2 = true := by
    unfold g_fin at hfin
    rw [hc] at hfin
    exact hfin
  have hlay := hts _ (u_in_lay hjN)
  unfold u_lay at hlay
  rw [if_pos hf0] at hlay
  have hst := (u_facts hfc hkC (u_lays hts (fun w h => h) hjN) hi).1
  have hcf : m.cls = cf := by
    obtain ⟨_, _, c', _, _, _, -, -, hf', -, -, -, hown2, -⟩ := Cond.laysFinal_spec hlay
    have e1 : c' = cf := by have := hi.symm.trans hf'; simp at this; exact this.1.symm
    have hC : (T j).1 = C := by
      unfold g_dc at hdc
      rw [hc] at hdc
      exact of_decide_eq_true hdc
    have hdecl : (T j).1 = (m_y M).cls := by
      rw [hC, ← hcn]
      unfold g_cn
      rw [hc]
    rw [hdecl] at hown2
    rw [← e1]; exact Option.some.inj (hown.symm.trans hown2)
  have h6 := u_fits hfc hkC hkind (Or.inr hlay) hi (hty j hjN) hnv hfit
  refine W.putFinK B.1 B.2.1 hown (B.2.2.2.2.2.2.1 _ hlk rfl) hi hst hcf (B.2.2.2.2.2.2.2.2.1.1 hin) (by rw [q2]; exact h6) q1 q3 (by rw [hsl]; exact k2_hasslot (q4 j hjN)) rfl rfl hg fun H' e1 e2 e3 => ?_
  have q := kk _ r hr p e s m args below meth c H' (locs ++ [⟨a, f.slot⟩]) A B hl (g_putH hM ha hj hc hap hjN q2 q3 q4 hsl e1 e2 e3) (g_S.put hS e2 e3 (hM.2.2 a _ ha).1)
  rw [hn] at q
  exact q
end GXH
