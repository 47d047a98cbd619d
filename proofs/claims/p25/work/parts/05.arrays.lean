/-! arrays, new objects -/
section GXA
variable {α : Type} {l : Launch} {G : gG} {M : gMt} {Φ : α → Method → Code → State → Array Value → List Frame → State → Prop} {k n pc nx x1 x2 : Nat} {L : List (Option Value)} {st : List Value} {h : gH} {F : Option α}
theorem X_ald {a : Nat} {i : Int32} {K : Int32 → Option α} (hd : g_lk (m_code M) pc = some (.iaload, nx, x1, x2)) (hn : nx = pc + 1) (kk : ∀ v, GX l G M Φ k n nx L (.int v :: st) h (K v)) : GX l G M Φ k n pc L (.int i :: .ref a :: st) h ((g_ald h a i).bind K) := by
  refine X_bind fun v hv => ?_
  unfold g_ald at hv
  cases hx : g_aI h a 0 with
  | none => rw [hx] at hv; cases hv
  | some x =>
    obtain ⟨m0, f⟩ := x
    rw [hx] at hv
    simp only [Option.bind_some, Option.map_eq_some_iff] at hv
    obtain ⟨j, hj, rfl⟩ := hv
    obtain ⟨hin, rfl⟩ := g_ix_some hj
    intro r hr p e s m args below meth c H locs A B hl hM hS
    have hg := g_dec B.2.2.2.2.2.2.2.2.2 hd hn
    have q := kk _ r hr p e s m args below meth c H locs A B hl hM hS
    rw [hn] at q
    exact va_iald (D := g_D G) (cl := vwCl) (tys := g_tl (g_c G)) (ws := [(a, .inl (g_c G 0, m0, .inl f))]) B.1 B.2.1 B.2.2.2.2.2.2.2.1.1 (g_PA hM (g_aI_some hx)) 0 0 rfl rfl hin hg q
theorem X_bld {a : Nat} {i : Int32} {K : Int32 → Option α} (hd : g_lk (m_code M) pc = some (.baload, nx, x1, x2)) (hn : nx = pc + 1) (kk : ∀ v, GX l G M Φ k n nx L (.int v :: st) h (K v)) : GX l G M Φ k n pc L (.int i :: .ref a :: st) h ((g_bld h a i).bind K) := by
  refine X_bind fun v hv => ?_
  unfold g_bld at hv
  cases hx : g_aI h a 1 with
  | none => rw [hx] at hv; cases hv
  | some x =>
    obtain ⟨m0, f⟩ := x
    rw [hx] at hv
    simp only [Option.bind_some, Option.map_eq_some_iff] at hv
    obtain ⟨j, hj, rfl⟩ := hv
    obtain ⟨hin, rfl⟩ := g_ix_some hj
    intro r hr p e s m args below meth c H locs A B hl hM hS
    have hg := g_dec B.2.2.2.2.2.2.2.2.2 hd hn
    have q := kk _ r hr p e s m args below meth c H locs A B hl hM hS
    rw [hn] at q
    exact va_bald (D := g_D G) (cl := vwCl) (tys := g_tl (g_c G)) (ws := [(a, .inl (g_c G 1, m0, .inl f))]) B.1 B.2.1 B.2.2.2.2.2.2.2.1.1 (g_PA hM (g_aI_some hx)) 0 1 rfl rfl hin hg q
theorem g_qldW {a m0 t : Nat} {i : Int32} {f : Nat → Option Nat} {p : Program} {e : Env} {s : State} {m : MethodId} {args : Array Value} {below : List Frame} {meth : Method} {c : Code} {H : Heap} {locs : List Loc} {A : Array Slot} {Q : State → Prop} {ty : FieldType} (B : g_bx G M p s m args meth c) (hM : g_M G h H) (ha : h.2 a = some (.inl (t, m0, .inr (.inr (.inr (.inr f)))))) (ht : (g_tl (g_c G))[t]? = some (g_c G t, ty)) (hty : refKind ty = true) (hin : vp_in i m0) (hg : decode (m_cc M) pc = .ok (.aaload, 1)) (q : W p l e (m_R M) s m args below meth c H locs k n Q (F0 m (pc + 1) A (va_rf (f i.toNatClampNeg) :: st))) : W p l e (m_R M) s m args below meth c H locs k n Q (F0 m pc A (.int i :: .ref a :: st)) := by
  have hlt : i.toNatClampNeg < m0 := Nat.not_le.mp fun q => hin (Or.inr q)
  have hP := g_PA hM ha
  exact W.aald (v := va_rf (f i.toNatClampNeg)) (ty := ty) B.1 B.2.1 (hP 0 _ rfl) ((B.2.2.2.2.2.2.2.1.1.2 t _ ht).1 m0 (fun j => va_rf (f j))) hty (fun q => by cases q) (by show ¬ (i < 0 ∨ (arrV _ _ _).slots.size ≤ _); rw [arrV_size]; exact hin) (by show (arrV _ _ _).slots[_]? = _; rw [arrV_read _ _ hlt]) rfl rfl hg q
theorem X_qld {a t : Nat} {i : Int32} {K : Option Nat → Option α} (hd : g_lk (m_code M) pc = some (.aaload, nx, x1, x2)) (hn : nx = pc + 1) (ht : t = 3 ∨ t = 4 ∨ t = 5) (kk : ∀ v, GX l G M Φ k n nx L (va_rf v :: st) h (K v)) : GX l G M Φ k n pc L (.int i :: .ref a :: st) h ((g_qld h a t i).bind K) := by
  refine X_bind fun v hv => ?_
  unfold g_qld at hv
  cases hx : g_aQ h a t with
  | none => rw [hx] at hv; cases hv
  | some x =>
    obtain ⟨m0, f⟩ := x
    rw [hx] at hv
    simp only [Option.bind_some, Option.map_eq_some_iff] at hv
    obtain ⟨j, hj, rfl⟩ := hv
    obtain ⟨hin, rfl⟩ := g_ix_some hj
    intro r hr p e s m args below meth c H locs A B hl hM hS
    have hg := g_dec B.2.2.2.2.2.2.2.2.2 hd hn
    have q := kk _ r hr p e s m args below meth c H locs A B hl hM hS
    rw [hn] at q
    rcases ht with rfl | rfl | rfl
    · exact g_qldW B hM (g_aQ_some hx) rfl rfl hin hg q
    · exact g_qldW B hM (g_aQ_some hx) rfl rfl hin hg q
    · exact g_qldW B hM (g_aQ_some hx) rfl rfl hin hg q
theorem X_ast {a : Nat} {i x : Int32} {K : gH → Option α} (hd : g_lk (m_code M) pc = some (.iastore, nx, x1, x2)) (hn : nx = pc + 1) (kk : ∀ h', GX l G M Φ k n nx L st h' (K h')) : GX l G M Φ k n pc L (.int x :: .int i :: .ref a :: st) h ((g_ast h a i x).bind K) := by
  refine X_bind fun v hv => ?_
  unfold g_ast at hv
  cases hx : g_aI h a 0 with
  | none => rw [hx] at hv; cases hv
  | some y =>
    obtain ⟨m0, f⟩ := y
    rw [hx] at hv
    simp only [Option.bind_some, Option.map_eq_some_iff] at hv
    obtain ⟨j, hj, rfl⟩ := hv
    obtain ⟨hin, rfl⟩ := g_ix_some hj
    have ha := g_aI_some hx
    intro r hr p e0 s m args below meth c H locs A B hl hM hS
    have hg := g_dec B.2.2.2.2.2.2.2.2.2 hd hn
    have hP := g_PA hM ha
    refine W.iast B.1 B.2.1 (hP 0 _ rfl) ((B.2.2.2.2.2.2.2.1.1.2 0 _ rfl).1 m0 (fun j => .int (f j))) (fun q => by cases q) (by show ¬ (i < 0 ∨ (arrV _ _ _).slots.size ≤ _); rw [arrV_size]; exact hin) rfl rfl hg fun H1 e z oq => ?_
    have q := kk _ r hr p e0 s m args below meth c H1 (locs ++ [⟨a, i.toNatClampNeg⟩]) A B hl (hM.set ha ?_ z oq) (g_S.put hS z oq (hM.2.2 a _ ha).1)
    · rw [hn] at q
      exact q
    · show H1[a]? = some (vp_cell _ _)
      rw [e]
      rw [vp_cell_i, vp_cell_i, arrV_store]
      congr 2
      funext q
      by_cases hq : q = i.toNatClampNeg
      · subst hq
        simp [updV, upd]
      · simp [updV, upd, hq]
theorem X_bst {a : Nat} {i x : Int32} {K : gH → Option α} (hd : g_lk (m_code M) pc = some (.bastore, nx, x1, x2)) (hn : nx = pc + 1) (kk : ∀ h', GX l G M Φ k n nx L st h' (K h')) : GX l G M Φ k n pc L (.int x :: .int i :: .ref a :: st) h ((g_bst h a i x).bind K) := by
  refine X_bind fun v hv => ?_
  unfold g_bst at hv
  cases hx : g_aI h a 1 with
  | none => rw [hx] at hv; cases hv
  | some y =>
    obtain ⟨m0, f⟩ := y
    rw [hx] at hv
    simp only [Option.bind_some, Option.map_eq_some_iff] at hv
    obtain ⟨j, hj, rfl⟩ := hv
    obtain ⟨hin, rfl⟩ := g_ix_some hj
    have ha := g_aI_some hx
    intro r hr p e0 s m args below meth c H locs A B hl hM hS
    have hg := g_dec B.2.2.2.2.2.2.2.2.2 hd hn
    have hP := g_PA hM ha
    refine W.bast B.1 B.2.1 (hP 0 _ rfl) ((B.2.2.2.2.2.2.2.1.1.2 1 _ rfl).1 m0 (fun j => .int (f j))) (fun q => by cases q) (by show ¬ (i < 0 ∨ (arrV _ _ _).slots.size ≤ _); rw [arrV_size]; exact hin) rfl rfl hg fun H1 e z oq => ?_
    have q := kk _ r hr p e0 s m args below meth c H1 (locs ++ [⟨a, i.toNatClampNeg⟩]) A B hl (hM.set ha ?_ z oq) (g_S.put hS z oq (hM.2.2 a _ ha).1)
    · rw [hn] at q
      exact q
    · show H1[a]? = some (vp_cell _ _)
      rw [e]
      rw [vp_cell_i, vp_cell_i, arrV_store]
      congr 2
      funext q
      by_cases hq : q = i.toNatClampNeg
      · subst hq
        simp [updV, upd, narrow]
      · simp [updV, upd, hq]
theorem X_aln {a : Nat} {K : Int32 → Option α} (hd : g_lk (m_code M) pc = some (.arraylength, nx, x1, x2)) (hn : nx = pc + 1) (kk : ∀ v, GX l G M Φ k n nx L (.int v :: st) h (K v)) : GX l G M Φ k n pc L (.ref a :: st) h ((g_aln h a).bind K) := by
  refine X_bind fun v hv => ?_
  unfold g_aln at hv
  split at hv
  · next t m0 f ha =>
    cases hb8 : Nat.blt t 10 with
    | false => rw [hb8] at hv; cases hv
    | true =>
    have hb9 := Nat.blt_eq.mp hb8
    rw [hb8] at hv
    cases hv
    intro r hr p e s m args below meth c H locs A B hl hM hS
    have hg := g_dec B.2.2.2.2.2.2.2.2.2 hd hn
    have q := kk _ r hr p e s m args below meth c H locs A B hl hM hS
    rw [hn] at q
    by_cases ht : t < 10
    · obtain ⟨ty, hty⟩ : ∃ ty, (g_tl (g_c G))[t]? = some (g_c G t, ty) := by
        match t, ht with
        | 0, _ => exact ⟨_, rfl⟩
        | 1, _ => exact ⟨_, rfl⟩
        | 2, _ => exact ⟨_, rfl⟩
        | 3, _ => exact ⟨_, rfl⟩
        | 4, _ => exact ⟨_, rfl⟩
        | 5, _ => exact ⟨_, rfl⟩
        | 6, _ => exact ⟨_, rfl⟩
        | 7, _ => exact ⟨_, rfl⟩
        | 8, _ => exact ⟨_, rfl⟩
        | 9, _ => exact ⟨_, rfl⟩
      exact va_alen (D := g_D G) (cl := vwCl) (tys := g_tl (g_c G)) (ws := [(a, .inl (g_c G t, m0, f))]) B.1 B.2.1 B.2.2.2.2.2.2.2.1.1 (g_PA hM ha) 0 t rfl hty rfl hg q
    · exact absurd hb9 ht
  · cases hv
/-- a new object's fields -/
def g_dfl (ci : Nat) : List Value := match vwCl[ci]? with
  | some q => (List.range q.2.2).map fun j => defaultValue (g_ty ci j)
  | none => []
def g_nf (ci : Nat) : Nat := match vwCl[ci]? with
  | some q => q.2.2
  | none => 0
theorem X_new {idx ci : Nat} (hd : g_lk (m_code M) pc = some (.new idx, nx, ci, x2)) (hn : nx = pc + 3) (hk : Nat.ble (k + 1) (m_R M).cells = true) (hs : Nat.ble (n + g_nf ci) (m_R M).slots = true) (kk : GX l G M Φ (k + 1) (n + g_nf ci) nx L (.ref h.1 :: st) (g_add h (.inr (ci, g_dfl ci))) F) : GX l G M Φ k n pc L st h F := by
  intro r hr p e s m args below meth c H locs A B hl hM hS
  have hg := g_dec B.2.2.2.2.2.2.2.2.2 hd hn
  have ht := g_lk_ent _ B.2.2.2.2.2.2.2.2.2 hd
  unfold g_ent at ht
  simp only [Bool.and_eq_true, decide_eq_true_eq] at ht
  have ht2 := ht.2
  unfold g_newOk at ht2
  cases hc : vwCl[ci]? with
  | none => rw [hc] at ht2; cases ht2
  | some q =>
    obtain ⟨C, T, N⟩ := q
    rw [hc] at ht2
    simp only [Bool.and_eq_true, decide_eq_true_eq] at ht2
    obtain ⟨hw, hty, hnm⟩ := g_cls hc
    have hts : ∀ w ∈ u_ws C T N, w.before args s = true := fun w h => B.2.2.2.2.2.2.1 w (hw w h).1 (hw w h).2
    have hKn := B.2.2.2.2.2.2.2.1.1.1 ci _ hc
    have hnf : g_nf ci = N := by unfold g_nf; rw [hc]
    rw [hnf] at hs kk
    refine W.newcK B.1 B.2.1 B.2.2.2.2.2.1 (B.2.2.2.2.2.2.1 _ ht2.1.1 rfl) (B.2.2.2.2.2.2.1 _ ht2.1.2 rfl) (B.2.2.2.2.2.2.1 _ ht2.2 rfl) rfl hg (Nat.le_of_ble_eq_true hk) (Nat.le_of_ble_eq_true hs) hKn.2.1 hM.1 fun H1 kC hkC e1 z1 o1 => ?_
    have q := kk r hr p e s m args below meth c H1 locs A B hl (hM.add (x := .inr (ci, g_dfl ci)) ?_ z1 o1) (g_S.add hS hM.1 z1 o1)
    · rw [hn] at q
      exact q
    · refine ⟨_, hc, (u_born (g_ty ci) hts (fun w h => h) hKn hkC e1 hty).to (fun j hj => ?_)⟩
      unfold g_dfl vp_V
      rw [hc]
      simp [hj]
theorem X_newarr {at0 : ArrayType} {t N : Nat} {i : Int32} {y : vp_A} (hd : g_lk (m_code M) pc = some (.newarray at0, nx, x1, x2)) (hn : nx = pc + 2) (harr : Cond.arrayClass (newarray.typeOf at0) ∈ lw_tbl) (ht : (g_tl (g_c G))[t]? = some (g_c G t, newarray.typeOf at0)) (hi : ¬ i < 0) (hN : i.toNatClampNeg = N) (hbytes : Nat.ble (N * componentBytes (newarray.typeOf at0)) 536870912 = true) (hk : Nat.ble (k + 1) (m_R M).cells = true) (hs : Nat.ble (n + N) (m_R M).slots = true) (hy : ∀ cA : ClassId, vp_cell cA y = arrV cA N (fun _ => defaultValue (newarray.typeOf at0)))
    (kk : GX l G M Φ (k + 1) (n + N) nx L (.ref h.1 :: st) (g_add h (.inl (t, y))) F) : GX l G M Φ k n pc L (.int i :: st) h F := by
  intro r hr p e s m args below meth c H locs A B hl hM hS
  have hg := g_dec B.2.2.2.2.2.2.2.2.2 hd hn
  refine va_newaK B.1 B.2.1 (B.2.2.2.2.2.2.1 _ harr rfl) rfl hg rfl hi hN (Nat.le_of_ble_eq_true hbytes) (Nat.le_of_ble_eq_true hk) (Nat.le_of_ble_eq_true hs) hM.1 fun H1 cA e1 z1 o1 hAr hNm => ?_
  have hcA : cA = g_c G t := by
    have h1 := (B.2.2.2.2.2.2.2.1.1.2 t _ ht).2
    unfold va_RA at h1
    have h2 : s.vm.findClass ("[" ++ (newarray.typeOf at0).toString) = some (g_c G t) := by
      cases at0 <;> exact h1
    exact Option.some.inj (hNm.symm.trans h2)
  subst hcA
  have q := kk r hr p e s m args below meth c H1 locs A B hl (hM.add (x := .inl (t, y)) ?_ z1 o1) (g_S.add hS hM.1 z1 o1)
  · rw [hn] at q
    exact q
  · show H1[h.1]? = some (vp_cell _ _)
    rw [hy]
    exact e1
end GXA
