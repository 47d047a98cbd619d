/-! texts: a String is one of the constants or an object of the heap -/
def g_fnd (f : Nat → Nat) (x : Nat) : Option Nat := (List.range 24).find? fun i => Nat.beq (f i) x
theorem g_fnd_some {f : Nat → Nat} {x i : Nat} (h : g_fnd f x = some i) : i < 24 ∧ f i = x := by
  unfold g_fnd at h
  exact ⟨List.mem_range.mp (List.mem_of_find?_eq_some h), Nat.eq_of_beq_eq_true (List.find?_some (p := fun i => Nat.beq (f i) x) h)⟩
/-- the row of a text -/
def g_sval (G : gG) (h : gH) (x : Nat) : Option Nat := match h.2 x with
  | some (.inr (c, fs)) => bif Nat.beq c 14 then (match (fs[0]? : Option Value) with | some (Value.ref v) => some v | _ => none) else none
  | some (.inl _) => none
  | none => (g_fnd (g_aK G) x).map (g_aV G)
def g_scod (G : gG) (h : gH) (x : Nat) : Option Int32 := match h.2 x with
  | some (.inr (c, fs)) => bif Nat.beq c 14 then (match (fs[1]? : Option Value) with | some (Value.int v) => some v | _ => none) else none
  | some (.inl _) => none
  | none => (g_fnd (g_aK G) x).map fun _ => 0
def g_srow (G : gG) (h : gH) (v : Nat) : Option (Nat × (Nat → Int32)) := match h.2 v with
  | some (.inl (t, n, .inl f)) => bif Nat.beq t 1 then some (n, f) else none
  | some _ => none
  | none => (g_fnd (g_aV G) v).map fun i => (g_len.getD i 0, fun j => (g_byt.getD i []).getD j 0)
def g_slnA (G : gG) (h : gH) (v : Nat) : Option Int32 := (g_srow G h v).map fun y => Int32.ofNat y.1
def g_sldA (G : gG) (h : gH) (v : Nat) (i : Int32) : Option Int32 := (g_srow G h v).bind fun y => (g_ix i y.1).map y.2
def g_isS (G : gG) (h : gH) (x : Nat) : Bool := match h.2 x with
  | some (.inr (c, _)) => Nat.beq c 14
  | some (.inl _) => false
  | none => (g_fnd (g_aK G) x).isSome
/-- System.arraycopy of a text's row into a row of bytes -/
def g_cpyS (G : gG) (h : gH) (a0 : Nat) (sp : Int32) (a : Nat) (dp m : Int32) : Option gH := (g_srow G h a0).bind fun x => (g_aI h a 1).bind fun y => if sp < 0 ∨ dp < 0 ∨ m < 0 ∨ x.1 < sp.toNatClampNeg + m.toNatClampNeg ∨ y.1 < dp.toNatClampNeg + m.toNatClampNeg ∨ ((List.range m.toNatClampNeg).all fun i => fits .byte (.int (x.2 (sp.toNatClampNeg + i)))) = false then none else some (g_set h a (.inl (1, y.1, .inl (va_cpy x.2 y.2 sp.toNatClampNeg dp.toNatClampNeg m.toNatClampNeg))))
section GXS
variable {α : Type} {l : Launch} {G : gG} {M : gMt} {Φ : α → Method → Code → State → Array Value → List Frame → State → Prop} {k n k1 n1 pc nx x1 x2 : Nat} {L : List (Option Value)} {st stk : List Value} {h : gH} {F : Option α}
theorem X_gsval {x idx : Nat} {K : Nat → Option α} (hd : g_lk (m_code M) pc = some (.getfield idx, nx, 14, 0)) (hn : nx = pc + 3) (hw : Cond.fieldLink (m_y M).cls idx "java/lang/String" "value" "[B" ∈ lw_tbl) (kk : ∀ v, GX l G M Φ k n nx L (.ref v :: st) h (K v)) : GX l G M Φ k n pc L (.ref x :: st) h ((g_sval G h x).bind K) := by
  refine X_bind fun v hv => ?_
  unfold g_sval at hv
  split at hv
  · next c fs hc =>
    cases hb : Nat.beq c 14 with
    | false => rw [hb] at hv; cases hv
    | true =>
      rw [hb] at hv
      cases Nat.eq_of_beq_eq_true hb
      simp only [cond_true] at hv
      split at hv
      · next v' hv' => cases hv; exact X_fd hd hn hc hv' (kk _)
      · cases hv
  · cases hv
  · next hc =>
    obtain ⟨i, hi, rfl⟩ := Option.map_eq_some_iff.mp hv
    obtain ⟨h1, rfl⟩ := g_fnd_some hi
    intro r hr p e s m args below meth c H locs A B hl hM hS
    have hg := g_dec B.2.2.2.2.2.2.2.2.2 hd hn
    have q := kk (g_aV G i) r hr p e s m args below meth c H locs A B hl hM hS
    rw [hn] at q
    exact vk_getf B.1 B.2.1 (B.2.2.2.2.2.2.2.1.2.2.2.1.1 i h1).2.2.1 hS B.2.2.2.2.2.1 (B.2.2.2.2.2.2.1 _ hw rfl) (fun _ h => h) hg q
theorem X_gscod {x idx : Nat} {K : Int32 → Option α} (hd : g_lk (m_code M) pc = some (.getfield idx, nx, 14, 1)) (hn : nx = pc + 3) (hw : Cond.fieldLink (m_y M).cls idx "java/lang/String" "coder" "B" ∈ lw_tbl) (kk : ∀ v, GX l G M Φ k n nx L (.int v :: st) h (K v)) : GX l G M Φ k n pc L (.ref x :: st) h ((g_scod G h x).bind K) := by
  refine X_bind fun v hv => ?_
  unfold g_scod at hv
  split at hv
  · next c fs hc =>
    cases hb : Nat.beq c 14 with
    | false => rw [hb] at hv; cases hv
    | true =>
      rw [hb] at hv
      cases Nat.eq_of_beq_eq_true hb
      simp only [cond_true] at hv
      split at hv
      · next v' hv' => cases hv; exact X_fd hd hn hc hv' (kk _)
      · cases hv
  · cases hv
  · next hc =>
    obtain ⟨i, hi, rfl⟩ := Option.map_eq_some_iff.mp hv
    obtain ⟨h1, rfl⟩ := g_fnd_some hi
    intro r hr p e s m args below meth c H locs A B hl hM hS
    have hg := g_dec B.2.2.2.2.2.2.2.2.2 hd hn
    have q := kk 0 r hr p e s m args below meth c H locs A B hl hM hS
    rw [hn] at q
    exact vk_getf B.1 B.2.1 (B.2.2.2.2.2.2.2.1.2.2.2.1.1 i h1).2.1 hS B.2.2.2.2.2.1 (B.2.2.2.2.2.2.1 _ hw rfl) (fun _ h => h) hg q
theorem g_srow_some {v : Nat} {y : Nat × (Nat → Int32)} (e : g_srow G h v = some y) : h.2 v = some (.inl (1, y.1, .inl y.2)) ∨ ∃ i, i < 24 ∧ g_aV G i = v ∧ y = (g_len.getD i 0, fun j => (g_byt.getD i []).getD j 0) := by
  unfold g_srow at e
  split at e
  · next t n f hc =>
    cases hb : Nat.beq t 1 with
    | false => rw [hb] at e; cases e
    | true =>
      rw [hb] at e
      cases Nat.eq_of_beq_eq_true hb
      cases e
      exact Or.inl hc
  · cases e
  · next hc =>
    obtain ⟨i, hi, rfl⟩ := Option.map_eq_some_iff.mp e
    obtain ⟨h1, h2⟩ := g_fnd_some hi
    exact Or.inr ⟨i, h1, h2, rfl⟩
theorem X_gsln {v : Nat} {K : Int32 → Option α} (hd : g_lk (m_code M) pc = some (.arraylength, nx, x1, x2)) (hn : nx = pc + 1) (kk : ∀ x, GX l G M Φ k n nx L (.int x :: st) h (K x)) : GX l G M Φ k n pc L (.ref v :: st) h ((g_slnA G h v).bind K) := by
  refine X_bind fun x hx => ?_
  obtain ⟨y, hy, rfl⟩ := Option.map_eq_some_iff.mp hx
  rcases g_srow_some hy with hc | ⟨i, h1, rfl, rfl⟩
  · have q := X_aln (a := v) (h := h) (K := K) hd hn kk
    have e : g_aln h v = some (Int32.ofNat y.1) := by
      unfold g_aln
      rw [hc]
      rfl
    rw [e] at q
    exact q
  · intro r hr p e s m args below meth c H locs A B hl hM hS
    have hg := g_dec B.2.2.2.2.2.2.2.2.2 hd hn
    have q := kk _ r hr p e s m args below meth c H locs A B hl hM hS
    rw [hn] at q
    exact va_tlen B.1 B.2.1 (B.2.2.2.2.2.2.2.1.2.2.2.1.1 i h1).2.2.2 hS rfl hg q
theorem X_gsld {v : Nat} {i : Int32} {K : Int32 → Option α} (hd : g_lk (m_code M) pc = some (.baload, nx, x1, x2)) (hn : nx = pc + 1) (kk : ∀ x, GX l G M Φ k n nx L (.int x :: st) h (K x)) : GX l G M Φ k n pc L (.int i :: .ref v :: st) h ((g_sldA G h v i).bind K) := by
  refine X_bind fun x hx => ?_
  unfold g_sldA at hx
  obtain ⟨y, hy, hx⟩ := Option.bind_eq_some_iff.mp hx
  obtain ⟨j, hj, rfl⟩ := Option.map_eq_some_iff.mp hx
  rcases g_srow_some hy with hc | ⟨i9, h1, rfl, rfl⟩
  · have q := X_bld (a := v) (h := h) (i := i) (K := K) hd hn kk
    have e : g_bld h v i = some (y.2 j) := by
      unfold g_bld g_aI
      rw [hc]
      show ((some (y.1, y.2)).bind fun x => (g_ix i x.1).map x.2) = _
      rw [Option.bind_some, hj]
      rfl
    rw [e] at q
    exact q
  · intro r hr p e s m args below meth c H locs A B hl hM hS
    have hg := g_dec B.2.2.2.2.2.2.2.2.2 hd hn
    obtain ⟨hin, rfl⟩ := g_ix_some hj
    have q := kk _ r hr p e s m args below meth c H locs A B hl hM hS
    rw [hn] at q
    exact va_tb B.1 B.2.1 (B.2.2.2.2.2.2.2.1.2.2.2.1.1 i9 h1).2.2.2 hS hin rfl hg q
theorem g_isS_some {x : Nat} (e : g_isS G h x = true) : g_is h x 14 = true ∨ ∃ i, i < 24 ∧ g_aK G i = x := by
  unfold g_isS at e
  split at e
  · next c fs hc =>
    refine Or.inl ?_
    unfold g_is
    rw [hc]
    exact e
  · cases e
  · next hc =>
    obtain ⟨i, hi⟩ := Option.isSome_iff_exists.mp e
    exact Or.inr ⟨i, g_fnd_some hi⟩
theorem X_callG {M' : gMt} {idx nA x : Nat} {As : List Value} {o : Option Value} {h1 : gH} (hd : g_lk (m_code M) pc = some (.invokevirtual idx, nx, x1, x2)) (hn : nx = pc + 3) (hs : g_site M M' (.invokevirtual idx) nA = true) (hlen : As.length = nA) (hstk : stk = As.reverse ++ .ref x :: st) (hst : Nat.ble ((st.map fun v => v.category).sum) 8 = true) (hcn : (m_y M').cls = "java/lang/String") (hrc : g_isS G h x = true) (hC : Ct l G M' (.ref x :: As) h o h1) (hk : Nat.ble (k + (m_R M').cells) (m_R M).cells = true) (hsl : Nat.ble (n + (m_R M').slots) (m_R M).slots = true)
    (kk : GX l G M Φ (k + (m_R M').cells) (n + (m_R M').slots) nx L (o.toList ++ st) h1 F) : GX l G M Φ k n pc L stk h F := by
  rcases g_isS_some hrc with hb | ⟨i, hi, rfl⟩
  · exact X_callV (ci := 14) hd hn hs hlen hstk hst ⟨hb, hcn.symm⟩ hC hk hsl kk
  · exact X_callK hd hn hs hlen hstk hst hi hcn hC hk hsl kk
theorem X_kG_IR {M' : gMt} {idx nA x : Nat} {As : List Value} (hd : g_lk (m_code M) pc = some (.invokevirtual idx, nx, x1, x2)) (hn : nx = pc + 3) (hs : g_site M M' (.invokevirtual idx) nA = true) (hlen : As.length = nA) (hstk : stk = As.reverse ++ .ref x :: st) (hst : Nat.ble ((st.map fun v => v.category).sum) 8 = true) (hcn : (m_y M').cls = "java/lang/String") (hz1 : (m_R M').cells = 0) (hz2 : (m_R M').slots = 0) (hk : Nat.ble k (m_R M).cells = true) (hsl : Nat.ble n (m_R M).slots = true) {f : Option Int32} {K : Int32 → Option α} (hC : ∀ y, f = some y → Ct l G M' (.ref x :: As) h (some (.int y)) h) (kk : ∀ y, GX l G M Φ k n nx L (.int y :: st) h (K y)) : GX l G M Φ k n pc L stk h (bif g_isS G h x then f.bind K else none) := by
  cases hb : g_isS G h x with
  | false => exact X_none
  | true =>
    refine X_bind fun y hy => X_callG hd hn hs hlen hstk hst hcn hb (hC y hy) ?_ ?_ ?_
    · rw [hz1]; exact hk
    · rw [hz2]; exact hsl
    · rw [hz1, hz2]; exact kk y
theorem X_kG_U {M' : gMt} {idx nA x : Nat} {As : List Value} (hd : g_lk (m_code M) pc = some (.invokevirtual idx, nx, x1, x2)) (hn : nx = pc + 3) (hs : g_site M M' (.invokevirtual idx) nA = true) (hlen : As.length = nA) (hstk : stk = As.reverse ++ .ref x :: st) (hst : Nat.ble ((st.map fun v => v.category).sum) 8 = true) (hcn : (m_y M').cls = "java/lang/String") (hk1 : k + (m_R M').cells = k1) (hn1 : n + (m_R M').slots = n1) (hk : Nat.ble k1 (m_R M).cells = true) (hsl : Nat.ble n1 (m_R M).slots = true) {f : Option gH} {K : gH → Option α} (hC : ∀ h1, f = some h1 → Ct l G M' (.ref x :: As) h none h1) (kk : ∀ h1, GX l G M Φ k1 n1 nx L st h1 (K h1)) : GX l G M Φ k n pc L stk h (bif g_isS G h x then f.bind K else none) := by
  subst hk1; subst hn1
  cases hb : g_isS G h x with
  | false => exact X_none
  | true => exact X_bind fun y hy => X_callG hd hn hs hlen hstk hst hcn hb (hC y hy) hk hsl (kk y)
/-- a String constant's place -/
theorem X_ldcG {idx i : Nat} {tx : String} (hd : g_lk (m_code M) pc = some (.ldc idx, nx, x1, x2)) (hn : nx = pc + 2) (hw : ((m_y M).cls, idx, tx, i) ∈ g_strs) (kk : GX l G M Φ k n nx L (.ref (g_aK G i) :: st) h F) : GX l G M Φ k n pc L st h F := X_ldcS hd hn hw kk
theorem X_cpyS {a a0 idx : Nat} {sp dp m0 : Int32} {K : gH → Option α} (hd : g_lk (m_code M) pc = some (.invokestatic idx, nx, x1, x2)) (hn : nx = pc + 3) (hlk : Cond.methodLink (m_y M).cls idx arraycopyName ∈ lw_tbl) (hnat : Cond.native arraycopyName ∈ lw_tbl) (hstat : Cond.static arraycopyName ∈ lw_tbl) (hini : Cond.initialized "java/lang/System" ∈ lw_tbl) (hframes : Nat.ble 1 (m_R M).frames = true) (hlocals : Nat.ble ((st.map fun v => v.category).sum + (nativeFrameWords "java/lang/System" "arraycopy" 5 + 11)) (m_R M).locals = true) (kk : ∀ h', GX l G M Φ k n nx L st h' (K h')) : GX l G M Φ k n pc L (.int m0 :: .int dp :: .ref a :: .int sp :: .ref a0 :: st) h ((g_cpyS G h a0 sp a dp m0).bind K) := by
  refine X_bind fun h' hv => ?_
  unfold g_cpyS at hv
  obtain ⟨x, hx, hv⟩ := Option.bind_eq_some_iff.mp hv
  obtain ⟨y, hy, hv⟩ := Option.bind_eq_some_iff.mp hv
  obtain ⟨n0, f⟩ := x
  obtain ⟨n1, g⟩ := y
  simp only at hv
  split at hv
  · cases hv
  · next hc =>
    cases hv
    have h1 : ¬ sp < 0 := fun q => hc (Or.inl q)
    have h2 : ¬ dp < 0 := fun q => hc (Or.inr (Or.inl q))
    have h3 : ¬ m0 < 0 := fun q => hc (Or.inr (Or.inr (Or.inl q)))
    have h4 : sp.toNatClampNeg + m0.toNatClampNeg ≤ n0 := Nat.not_lt.mp fun q => hc (Or.inr (Or.inr (Or.inr (Or.inl q))))
    have h5 : dp.toNatClampNeg + m0.toNatClampNeg ≤ n1 := Nat.not_lt.mp fun q => hc (Or.inr (Or.inr (Or.inr (Or.inr (Or.inl q)))))
    have hfit : ∀ i : Nat, i < m0.toNatClampNeg → fits .byte (.int (f (sp.toNatClampNeg + i))) = true := fun i hi => by
      have h9 : ((List.range m0.toNatClampNeg).all fun i => fits .byte (.int (f (sp.toNatClampNeg + i)))) = true := by
        cases e : ((List.range m0.toNatClampNeg).all fun i => fits .byte (.int (f (sp.toNatClampNeg + i)))) with
        | true => rfl
        | false => exact absurd (Or.inr (Or.inr (Or.inr (Or.inr (Or.inr e))))) hc
      exact List.all_eq_true.mp h9 i (List.mem_range.mpr hi)
    have ha := g_aI_some hy
    intro r hr p e s m args below meth c H locs A B hl hM hS
    have hg := g_dec B.2.2.2.2.2.2.2.2.2 hd hn
    have nn : ∀ z : Int32, ¬ z < 0 → z.toInt = (z.toNatClampNeg : Int) := by
      intro z hz
      have hz0 : (0 : Int) ≤ z.toInt := by
        have := Int32.not_lt.mp hz
        simpa using Int32.le_iff_toInt_le.mp this
      show z.toInt = ((z.toInt.toNat : Nat) : Int)
      omega
    have ok : ∀ w ∈ lw_tbl, goodWord w = true → w.before args s = true := B.2.2.2.2.2.2.1
    have hK := B.2.2.2.2.2.2.2.1.1
    obtain ⟨cs, hc0, hob, hkn, k0, cm0, hk0, hkk0, hsz0, hval⟩ : ∃ (cs : Cell), H[a0]? = some cs ∧ (∀ q, cs.vm ≠ .statics q) ∧ cs.vm ≠ .unknown ∧ ∃ (k0 : Class) (cm0 : ClassId), s.vm.classes[cs.cls]? = some k0 ∧ k0.kind = .array cm0 .byte ∧ n0 ≤ cs.slots.size ∧ ∀ j : Nat, j < n0 → cs.slots[j]? = some (.int (f j)) := by
      rcases g_srow_some hx with hq | ⟨i9, hi9, rfl, e9⟩
      · obtain ⟨-, k0, hk0, cm0, hkk0⟩ := (hK.2 1 _ rfl).1 n0 (fun j => .int (f j))
        refine ⟨vp_cell (g_c G 1) (n0, .inl f), (hM.2.2 a0 _ hq).2, (fun _ h => by cases h), (fun h => by cases h), k0, cm0, hk0, hkk0, Nat.le_of_eq (arrV_size _ _ _).symm, fun j hj => arrV_read _ _ hj⟩
      · cases e9
        obtain ⟨scr, hs1, hs2, hs3, hs4, -, hs5, hs7⟩ := (B.2.2.2.2.2.2.2.1.2.2.2.1.1 i9 hi9).2.2.2
        have hc0 : H[g_aV G i9]? = some scr := by rw [hS.2.1 _ (Array.getElem?_eq_some_iff.mp hs1).1 hs7]; exact hs1
        obtain ⟨hs6, k0, hk0, cm0, hkk0⟩ := hs2
        exact ⟨scr, hc0, hs6, hs3, k0, cm0, hk0, hkk0, hs4, hs5⟩
    intro T hT X
    have hc1 : H[a]? = some (vp_cell (g_c G 1) (n1, .inl g)) := (hM.2.2 a _ ha).2
    obtain ⟨-, k1, hk1, cm1, hkk1⟩ := (hK.2 1 _ rfl).1 n1 (fun j => .int (g j))
    obtain ⟨vm', X', step⟩ := X.arraycopy B.1 B.2.2.2.2.2.1 (ok _ hlk rfl) (ok _ hnat rfl) (ok _ hstat rfl) (ok _ hini rfl) (src := a0) (dst := a) (cs := cs) (cd := vp_cell (g_c G 1) (n1, .inl g)) (srcPos := sp) (destPos := dp) (n := m0) (by rw [hT]; exact hc0) (by rw [hT]; exact hc1)
      hob (fun _ h => by cases h) hkn (fun h => by cases h) hk0 hk1 hkk0 hkk1 (by simp [refKind]) h1 h2 h3
      (by rw [nn sp h1, nn m0 h3]; omega)
      (by rw [nn dp h2, nn m0 h3]; show ¬ _ > ((arrV (g_c G 1) n1 (fun j => .int (g j))).slots.size : Int); rw [arrV_size]; omega)
      (fun vm₁ _ i hi => by
        have e : cs.slots.getD (sp.toNatClampNeg + i) .null = .int (f (sp.toNatClampNeg + i)) := by
          rw [Array.getD_eq_getD_getElem?, hval _ (by omega)]
          rfl
        refine ⟨?_, ?_⟩
        · rw [e]
          exact hfit i hi
        · rw [e]
          exact trivial)
      (g := F0 m pc A (.int m0 :: .int dp :: .ref a :: .int sp :: .ref a0 :: st)) rfl (by rw [B.2.2.1]; exact hl.1) (rest := st) rfl (by rw [B.2.1]; exact hg) (Nat.le_of_ble_eq_true hframes) (by have := Nat.le_of_ble_eq_true hlocals; show 2 * 0 + _ + _ ≤ _; omega)
    have e1 : copied cs (vp_cell (g_c G 1) (n1, .inl g)) sp dp m0 = vp_cell (g_c G 1) (n1, .inl (va_cpy f g sp.toNatClampNeg dp.toNatClampNeg m0.toNatClampNeg)) := va_copiedX (fun z => .int z) cs (g_c G 1) f g hval h4
    rw [e1] at X' step
    have hla : a < H.size := (Array.getElem?_eq_some_iff.mp hc1).1
    have hheap : ((T.setVm vm').setCell a (vp_cell (g_c G 1) (n1, .inl (va_cpy f g sp.toNatClampNeg dp.toNatClampNeg m0.toNatClampNeg)))).heap = H.setIfInBounds a (vp_cell (g_c G 1) (n1, .inl (va_cpy f g sp.toNatClampNeg dp.toNatClampNeg m0.toNatClampNeg))) := by rw [← hT]; rfl
    have oq : ∀ q : Nat, q ≠ a → (H.setIfInBounds a (vp_cell (g_c G 1) (n1, .inl (va_cpy f g sp.toNatClampNeg dp.toNatClampNeg m0.toNatClampNeg))))[q]? = H[q]? := fun q hq => by simp [Array.getElem?_setIfInBounds, Ne.symm hq]
    have hab : g_b G ≤ a := (hM.2.2 a _ ha).1
    subst hn
    obtain ⟨t, a1, b1⟩ := kk _ r hr p e s m args below meth c (H.setIfInBounds a (vp_cell (g_c G 1) (n1, .inl (va_cpy f g sp.toNatClampNeg dp.toNatClampNeg m0.toNatClampNeg)))) _ A B hl (hM.set ha (x := .inl (1, n1, .inl (va_cpy f g sp.toNatClampNeg dp.toNatClampNeg m0.toNatClampNeg))) (show (H.setIfInBounds a _)[a]? = some _ by simp [Array.getElem?_setIfInBounds, hla]) (by simp) oq) ⟨by simp; exact hS.1, fun q g1 g2 => by
        rw [oq q (fun e => g2 (by rw [e]; exact hab))]
        exact hS.2.1 q g1 g2, fun q hq => by
        rcases List.mem_append.mp hq with h | h
        · exact hS.2.2 q h
        · obtain ⟨z, -, hz⟩ := List.mem_map.mp h
          rw [← hz]
          exact hab⟩ _ hheap X'
    exact ⟨t, step t a1, b1⟩
theorem X_aretR {ρ : α → Option Value × gH} {mc ms : Nat} {r0 : α} {v : Nat} {ty : FieldType} (hd : g_lk (m_code M) pc = some (.areturn, nx, x1, x2)) (hn : nx = pc + 1) (hty : m_ret M = some (.array ty)) (hρ : ρ r0 = (some (.ref v), h)) (hk : Nat.ble k mc = true) (hs : Nat.ble n ms = true) : GX l G M (g_phi G ρ mc ms) k n pc L [.ref v] h (some r0) := by
  intro r hr p e s m args below meth c H locs A B hl hM hS
  cases hr
  have hg := g_dec B.2.2.2.2.2.2.2.2.2 hd hn
  refine W.widen (Nat.le_of_ble_eq_true hk) (Nat.le_of_ble_eq_true hs) ?_
  unfold g_phi
  rw [hρ]
  refine W.aret B.1 B.2.1 (by rw [B.2.2.2.1]; exact hty) (Or.inr ⟨_, rfl⟩) (Or.inr ⟨v, rfl⟩) (fun t ht hW => ⟨rfl, by rw [ht]; exact hM, by rw [ht]; exact hS.1, fun q hq => by
    rw [ht]
    exact hS.2.1 q (Nat.lt_of_lt_of_le hq B.2.2.2.2.2.2.2.2.1.2.1) (Nat.not_le.mpr hq)⟩) hS.2.2 hg B.2.2.2.2.1
end GXS
