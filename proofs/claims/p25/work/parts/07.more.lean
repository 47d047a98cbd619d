/-! more rows: copies, constructors, branches whose F is an if, switches -/
section GXD
variable {α : Type} {l : Launch} {G : gG} {M : gMt} {Φ : α → Method → Code → State → Array Value → List Frame → State → Prop} {k n pc nx x1 x2 : Nat} {L : List (Option Value)} {st stk : List Value} {h : gH} {F : Option α}
/-- System.arraycopy of ints -/
def g_cpy (h : gH) (a0 : Nat) (sp : Int32) (a : Nat) (dp n : Int32) : Option gH := (g_aI h a0 0).bind fun x => (g_aI h a 0).bind fun y => if sp < 0 ∨ dp < 0 ∨ n < 0 ∨ x.1 < sp.toNatClampNeg + n.toNatClampNeg ∨ y.1 < dp.toNatClampNeg + n.toNatClampNeg then none else some (g_set h a (.inl (0, y.1, .inl (va_cpy x.2 y.2 sp.toNatClampNeg dp.toNatClampNeg n.toNatClampNeg))))
theorem X_copy {a a0 idx : Nat} {sp dp m0 : Int32} {K : gH → Option α} (hd : g_lk (m_code M) pc = some (.invokestatic idx, nx, x1, x2)) (hn : nx = pc + 3) (hlk : Cond.methodLink (m_y M).cls idx arraycopyName ∈ lw_tbl) (hnat : Cond.native arraycopyName ∈ lw_tbl) (hstat : Cond.static arraycopyName ∈ lw_tbl) (hini : Cond.initialized "java/lang/System" ∈ lw_tbl) (hframes : Nat.ble 1 (m_R M).frames = true) (hlocals : Nat.ble ((st.map fun v => v.category).sum + (nativeFrameWords "java/lang/System" "arraycopy" 5 + 11)) (m_R M).locals = true) (kk : ∀ h', GX l G M Φ k n nx L st h' (K h')) : GX l G M Φ k n pc L (.int m0 :: .int dp :: .ref a :: .int sp :: .ref a0 :: st) h ((g_cpy h a0 sp a dp m0).bind K) := by
  refine X_bind fun h' hv => ?_
  unfold g_cpy at hv
  cases hx : g_aI h a0 0 with
  | none => rw [hx] at hv; cases hv
  | some x =>
    obtain ⟨n0, f⟩ := x
    rw [hx] at hv
    simp only [Option.bind_some] at hv
    cases hy : g_aI h a 0 with
    | none => rw [hy] at hv; cases hv
    | some y =>
      obtain ⟨n1, g⟩ := y
      rw [hy] at hv
      simp only [Option.bind_some] at hv
      split at hv
      · cases hv
      · next hc =>
        cases hv
        have h1 : ¬ sp < 0 := fun q => hc (Or.inl q)
        have h2 : ¬ dp < 0 := fun q => hc (Or.inr (Or.inl q))
        have h3 : ¬ m0 < 0 := fun q => hc (Or.inr (Or.inr (Or.inl q)))
        have h4 : sp.toNatClampNeg + m0.toNatClampNeg ≤ n0 := Nat.not_lt.mp fun q => hc (Or.inr (Or.inr (Or.inr (Or.inl q))))
        have h5 : dp.toNatClampNeg + m0.toNatClampNeg ≤ n1 := Nat.not_lt.mp fun q => hc (Or.inr (Or.inr (Or.inr (Or.inr q))))
        have ha0 := g_aI_some hx
        have ha := g_aI_some hy
        intro r hr p e s m args below meth c H locs A B hl hM hS
        have hg := g_dec B.2.2.2.2.2.2.2.2.2 hd hn
        have nn : ∀ z : Int32, ¬ z < 0 → z.toInt = (z.toNatClampNeg : Int) := by
          intro z hz
          have hz0 : (0 : Int) ≤ z.toInt := by
            have := Int32.not_lt.mp hz
            simpa using Int32.le_iff_toInt_le.mp this
          show z.toInt = ((z.toInt.toNat : Nat) : Int)
          omega
        have ok : ∀ w ∈ lw_tbl, goodWord w = true → w.before args s = true := B.2.2.2.2.2.2.1
        intro T hT X
        have hc0 : H[a0]? = some (vp_cell (g_c G 0) (n0, .inl f)) := (hM.2.2 a0 _ ha0).2
        have hc1 : H[a]? = some (vp_cell (g_c G 0) (n1, .inl g)) := (hM.2.2 a _ ha).2
        have hK := B.2.2.2.2.2.2.2.1.1
        obtain ⟨-, k0, hk0, cm0, hkk0⟩ := (hK.2 0 _ rfl).1 n0 (fun j => .int (f j))
        obtain ⟨-, k1, hk1, cm1, hkk1⟩ := (hK.2 0 _ rfl).1 n1 (fun j => .int (g j))
        obtain ⟨vm', X', step⟩ := X.arraycopy B.1 B.2.2.2.2.2.1 (ok _ hlk rfl) (ok _ hnat rfl) (ok _ hstat rfl) (ok _ hini rfl) (src := a0) (dst := a) (cs := vp_cell (g_c G 0) (n0, .inl f)) (cd := vp_cell (g_c G 0) (n1, .inl g)) (srcPos := sp) (destPos := dp) (n := m0) (by rw [hT]; exact hc0) (by rw [hT]; exact hc1)
          (fun _ h => by cases h) (fun _ h => by cases h) (fun h => by cases h) (fun h => by cases h) hk0 hk1 hkk0 hkk1 (by simp [refKind]) h1 h2 h3
          (by rw [nn sp h1, nn m0 h3]; show ¬ _ > ((arrV (g_c G 0) n0 (fun j => .int (f j))).slots.size : Int); rw [arrV_size]; omega)
          (by rw [nn dp h2, nn m0 h3]; show ¬ _ > ((arrV (g_c G 0) n1 (fun j => .int (g j))).slots.size : Int); rw [arrV_size]; omega)
          (fun vm₁ _ i hi => by
            have e : (vp_cell (g_c G 0) (n0, .inl f)).slots.getD (sp.toNatClampNeg + i) .null = .int (f (sp.toNatClampNeg + i)) := by
              show (arrV (g_c G 0) n0 (fun j => .int (f j))).slots.getD _ _ = _
              rw [Array.getD_eq_getD_getElem?, arrV_read _ _ (by omega)]
              rfl
            refine ⟨?_, ?_⟩
            · rw [e]; rfl
            · rw [e]
              exact trivial)
          (g := F0 m pc A (.int m0 :: .int dp :: .ref a :: .int sp :: .ref a0 :: st)) rfl (by rw [B.2.2.1]; exact hl.1) (rest := st) rfl (by rw [B.2.1]; exact hg) (Nat.le_of_ble_eq_true hframes) (by have := Nat.le_of_ble_eq_true hlocals; show 2 * 0 + _ + _ ≤ _; omega)
        have e1 : copied (vp_cell (g_c G 0) (n0, .inl f)) (vp_cell (g_c G 0) (n1, .inl g)) sp dp m0 = vp_cell (g_c G 0) (n1, .inl (va_cpy f g sp.toNatClampNeg dp.toNatClampNeg m0.toNatClampNeg)) := va_copied (fun z => .int z) (g_c G 0) (g_c G 0) f g h4
        rw [e1] at X' step
        have hla : a < H.size := (Array.getElem?_eq_some_iff.mp hc1).1
        have hheap : ((T.setVm vm').setCell a (vp_cell (g_c G 0) (n1, .inl (va_cpy f g sp.toNatClampNeg dp.toNatClampNeg m0.toNatClampNeg)))).heap = H.setIfInBounds a (vp_cell (g_c G 0) (n1, .inl (va_cpy f g sp.toNatClampNeg dp.toNatClampNeg m0.toNatClampNeg))) := by rw [← hT]; rfl
        have oq : ∀ q : Nat, q ≠ a → (H.setIfInBounds a (vp_cell (g_c G 0) (n1, .inl (va_cpy f g sp.toNatClampNeg dp.toNatClampNeg m0.toNatClampNeg))))[q]? = H[q]? := fun q hq => by simp [Array.getElem?_setIfInBounds, Ne.symm hq]
        have hab : g_b G ≤ a := (hM.2.2 a _ ha).1
        subst hn
        obtain ⟨t, a1, b1⟩ := kk _ r hr p e s m args below meth c (H.setIfInBounds a (vp_cell (g_c G 0) (n1, .inl (va_cpy f g sp.toNatClampNeg dp.toNatClampNeg m0.toNatClampNeg)))) _ A B hl (hM.set ha (x := .inl (0, n1, .inl (va_cpy f g sp.toNatClampNeg dp.toNatClampNeg m0.toNatClampNeg))) (show (H.setIfInBounds a _)[a]? = some _ by simp [Array.getElem?_setIfInBounds, hla]) (by simp) oq) ⟨by simp; exact hS.1, fun q g1 g2 => by
            rw [oq q (fun e => g2 (by rw [e]; exact hab))]
            exact hS.2.1 q g1 g2, fun q hq => by
            rcases List.mem_append.mp hq with h | h
            · exact hS.2.2 q h
            · obtain ⟨z, -, hz⟩ := List.mem_map.mp h
              rw [← hz]
              exact hab⟩ _ hheap X'
        exact ⟨t, step t a1, b1⟩
/-- super() of a class right under Object -/
theorem X_objInit {a idx : Nat} (hd : g_lk (m_code M) pc = some (.invokespecial idx, nx, x1, x2)) (hn : nx = pc + 3) (hlk : Cond.methodLink (m_y M).cls idx Lib.objectInit ∈ lw_tbl) (hin : Cond.instanceMethod Lib.objectInit ∈ lw_tbl) (hco : Cond.code Lib.objectInit ⟨#[0xb1]⟩ 1 none ∈ lw_tbl) (hframes : Nat.ble 1 (m_R M).frames = true) (hlocals : Nat.ble ((st.map fun v => v.category).sum + 12) (m_R M).locals = true) (kk : GX l G M Φ k n nx L st h F) : GX l G M Φ k n pc L (.ref a :: st) h F := by
  intro r hr p e s m args below meth c H locs A B hl hM hS
  have hg := g_dec B.2.2.2.2.2.2.2.2.2 hd hn
  have ok : ∀ w ∈ lw_tbl, goodWord w = true → w.before args s = true := B.2.2.2.2.2.2.1
  refine W.objInit B.1 B.2.1 B.2.2.2.2.2.1 (ok _ hlk rfl) (ok _ hin rfl) (ok _ hco rfl) rfl (by rw [B.2.2.1]; exact hl.1) rfl hg (Nat.le_of_ble_eq_true hframes) (by have := Nat.le_of_ble_eq_true hlocals; show 2 * 0 + _ + _ ≤ _; omega) ?_
  have q := kk r hr p e s m args below meth c H locs A B hl hM hS
  rw [hn] at q
  exact q
theorem X_anew {idx t N : Nat} {i : Int32} {C : String} (hd : g_lk (m_code M) pc = some (.anewarray idx, nx, x1, x2)) (hn : nx = pc + 3) (hlk : Cond.classLink (m_y M).cls idx C ∈ lw_tbl) (hov : Cond.arrayOver (.object C) ∈ lw_tbl) (ht : (g_tl (g_c G))[t]? = some (g_c G t, .object C)) (hi : ¬ i < 0) (hN : i.toNatClampNeg = N) (hb : Nat.ble (N * 4) 536870912 = true) (hk : Nat.ble (k + 1) (m_R M).cells = true) (hs : Nat.ble (n + N) (m_R M).slots = true) (kk : GX l G M Φ (k + 1) (n + N) nx L (.ref h.1 :: st) (g_add h (.inl (t, N, .inr (.inr (.inr (.inr (fun _ => none))))))) F) : GX l G M Φ k n pc L (.int i :: st) h F := by
  intro r hr p e s m args below meth c H locs A B hl hM hS
  have hg := g_dec B.2.2.2.2.2.2.2.2.2 hd hn
  have ok : ∀ w ∈ lw_tbl, goodWord w = true → w.before args s = true := B.2.2.2.2.2.2.1
  subst hN
  refine W.anew B.1 B.2.1 B.2.2.2.2.2.1 (ok _ hlk rfl) (va_AO.use (B.2.2.2.2.2.2.2.1.2.1 _ (List.mem_filter.mpr ⟨hov, rfl⟩))) rfl hg rfl hi (Nat.le_of_ble_eq_true hb) (Nat.le_of_ble_eq_true hk) (Nat.le_of_ble_eq_true hs) fun cA kA comp f1 f2 f3 f4 => ?_
  have hcA : cA = g_c G t := by
    obtain ⟨_, _, _, _, _, h4⟩ := (B.2.2.2.2.2.2.2.1.1.2 t _ ht).2
    exact Option.some.inj (f1.symm.trans h4)
  subst hcA
  generalize hH1 : H.push ({ cls := g_c G t, slots := Array.replicate i.toNatClampNeg .null, vm := .none } : Cell) = H1
  have z1 : H1.size = h.1 + 1 := by rw [← hH1, Array.size_push, hM.1]
  have e1 : H1[h.1]? = some (arrV (g_c G t) i.toNatClampNeg (fun _ => .null)) := by rw [← hH1, ← hM.1, Array.getElem?_push_size, ← arrV_new]
  have o1 : ∀ q : Nat, q < h.1 → H1[q]? = H[q]? := fun q hq => by rw [← hH1, Array.getElem?_push, if_neg (Nat.ne_of_lt (by rw [hM.1]; exact hq))]
  have q := kk r hr p e s m args below meth c H1 locs A B hl (hM.add (x := .inl (t, i.toNatClampNeg, .inr (.inr (.inr (.inr (fun _ => none)))))) (by show H1[h.1]? = some (vp_cell _ _); rw [vp_cell_q]; exact e1) z1 o1) (g_S.add hS hM.1 z1 o1)
  rw [hn] at q
  rw [hM.1]
  exact q
theorem X_qst {a t v ci : Nat} {i : Int32} {C : String} {K : gH → Option α} (hd : g_lk (m_code M) pc = some (.aastore, nx, x1, x2)) (hn : nx = pc + 1) (ht : (g_tl (g_c G))[t]? = some (g_c G t, .object C)) (hcn : g_cn ci = C) (kk : ∀ h', GX l G M Φ k n nx L st h' (K h')) : GX l G M Φ k n pc L (.ref v :: .int i :: .ref a :: st) h (bif g_is h v ci then (g_qst h a t i v).bind K else none) := by
  cases hb : g_is h v ci with
  | false => exact X_none
  | true =>
  refine X_bind fun h' hv => ?_
  unfold g_qst at hv
  cases hx : g_aQ h a t with
  | none => rw [hx] at hv; cases hv
  | some y =>
    obtain ⟨m0, f⟩ := y
    rw [hx] at hv
    simp only [Option.bind_some, Option.map_eq_some_iff] at hv
    obtain ⟨j, hj, rfl⟩ := hv
    obtain ⟨hin, rfl⟩ := g_ix_some hj
    have ha := g_aQ_some hx
    obtain ⟨fs, hvv⟩ := g_is_some hb
    intro r hr p e0 s m args below meth c H locs A B hl hM hS
    have hg := g_dec B.2.2.2.2.2.2.2.2.2 hd hn
    have hlt : i.toNatClampNeg < m0 := Nat.not_le.mp fun q => hin (Or.inr q)
    have h0 : ¬ i < 0 := fun q => hin (Or.inl q)
    obtain ⟨r', hr', cellV, g1, g2, g3, -⟩ := (hM.2.2 v _ hvv).2
    have hcls := (B.2.2.2.2.2.2.2.1.1.1 ci r' hr').2
    have hC : r'.1 = C := by
      rw [← hcn]
      unfold g_cn
      rw [hr']
    obtain ⟨kA, comp, k1, k2, k3, -⟩ := (B.2.2.2.2.2.2.2.1.1.2 t _ ht).2
    rw [← hC] at k3
    have hcomp : comp = (g_D G).1 ci := Option.some.inj (k3.symm.trans hcls.1)
    subst hcomp
    obtain ⟨kC, hkC, -⟩ := hcls.2
    have hP := g_PA hM ha
    refine W.aast B.1 B.2.1 (hP 0 _ rfl) (fun q h => by cases h) (fun h => by cases h) k1 k2 rfl hkC ⟨h0, by show _ < (arrV _ _ _).slots.size; rw [arrV_size]; exact hlt⟩ g1 (fun q h => by rw [g3] at h; cases h) (by rw [g2]; exact hkC) (by rw [g2]; exact va_assign hcls) rfl rfl hg fun H1 e z oq => ?_
    have q := kk _ r hr p e0 s m args below meth c H1 (locs ++ [⟨a, i.toNatClampNeg⟩]) A B hl (hM.set ha ?_ z oq) (g_S.put hS z oq (hM.2.2 a _ ha).1)
    · rw [hn] at q
      exact q
    · show H1[a]? = some (vp_cell _ _)
      rw [e]
      rw [vp_cell_q, vp_cell_q, arrV_store]
      congr 2
      funext q
      by_cases hq : q = i.toNatClampNeg
      · subst hq
        simp [updV, va_up, va_rf]
      · simp [updV, va_up, hq]
/-- new int[N][K] -/
def g_addM (h : gH) (N K : Nat) : gH := (h.1 + 1 + N, fun q => if q = h.1 then some (.inl (3, N, .inr (.inr (.inr (.inr (fun i => if i < N then some (h.1 + 1 + i) else none)))))) else if h.1 < q ∧ q < h.1 + 1 + N then some (.inl (0, K, .inl fun _ => 0)) else h.2 q)
theorem X_mna {idx N K : Nat} {i j : Int32} (hd : g_lk (m_code M) pc = some (.multianewarray idx 2, nx, x1, x2)) (hn : nx = pc + 4) (hlk : Cond.classLink (m_y M).cls idx ("[" ++ (FieldType.array .int).toString) ∈ lw_tbl) (hov : Cond.arrayOver (.array .int) ∈ lw_tbl) (har : Cond.arrayClass .int ∈ lw_tbl) (hi : ¬ i < 0) (hj : ¬ j < 0) (hN : i.toNatClampNeg = N) (hK0 : j.toNatClampNeg = K) (hb1 : Nat.ble (N * 4) 536870912 = true) (hb2 : Nat.ble (K * componentBytes .int) 536870912 = true) (hb3 : Nat.ble K 536870912 = true) (hk : Nat.ble (k + (1 + N)) (m_R M).cells = true) (hs : Nat.ble (n + (N + N * K)) (m_R M).slots = true) (kk : GX l G M Φ (k + 1 + N) (n + N + N * K) nx L (.ref h.1 :: st) (g_addM h N K) F) : GX l G M Φ k n pc L (.int j :: .int i :: st) h F := by
  intro r hr p e s m args below meth c H locs A B hl hM hS
  have hg := g_dec B.2.2.2.2.2.2.2.2.2 hd hn
  have ok : ∀ w ∈ lw_tbl, goodWord w = true → w.before args s = true := B.2.2.2.2.2.2.1
  subst hN
  subst hK0
  intro T hT Xs
  obtain ⟨vm₁, cA, comp, -, fA, fC, hO, -, X', step⟩ := Xs.multianewarray2F B.1 B.2.2.2.2.2.1 (ok _ hlk rfl) (va_AOA.use (ty := .int) (A := args) (B.2.2.2.2.2.2.2.1.2.1 _ (List.mem_filter.mpr ⟨hov, rfl⟩))) (ok _ har rfl) (g := F0 m pc A (.int j :: .int i :: st)) rfl (by rw [B.2.1]; exact hg) rfl hi hj (Nat.le_of_ble_eq_true hb1) (Nat.le_of_ble_eq_true hb2) (Nat.le_of_ble_eq_true hb3) rfl rfl (Nat.le_of_ble_eq_true hk) (Nat.le_of_ble_eq_true hs)
  have hcA : cA = g_c G 3 := by
    have h1 := (B.2.2.2.2.2.2.2.1.1.2 3 _ rfl).2
    exact Option.some.inj (fA.symm.trans h1)
  have hco : comp = g_c G 0 := by
    have h1 := (B.2.2.2.2.2.2.2.1.1.2 0 _ rfl).2
    exact Option.some.inj (fC.symm.trans h1)
  subst hcA
  subst hco
  generalize hF : Jvm.Free.Multi.fill (T.setVm vm₁) (g_c G 3) (g_c G 0) i.toNatClampNeg j.toNatClampNeg (defaultValue .int) i.toNatClampNeg = F1 at X' step
  have hTh : (T.setVm vm₁).heap = H := hT
  obtain ⟨f1, f2, -, -⟩ := Jvm.Free.Multi.fill_facts (T.setVm vm₁) (g_c G 3) (g_c G 0) i.toNatClampNeg j.toNatClampNeg (defaultValue .int) i.toNatClampNeg
  rw [hF, hTh] at f1 f2
  have hold : ∀ x : Nat, x < H.size → F1.heap[x]? = H[x]? := fun x hx => by
    have := Jvm.Free.Multi.fill_old (T.setVm vm₁) (g_c G 3) (g_c G 0) i.toNatClampNeg j.toNatClampNeg (defaultValue .int) (a := x) (by rw [hTh]; exact hx) i.toNatClampNeg
    rw [hF, hTh] at this
    exact this
  have hz : Jvm.Free.Multi.innerC (g_c G 0) j.toNatClampNeg (defaultValue .int) = vp_cell (g_c G 0) (j.toNatClampNeg, .inl fun _ => 0) := by
    rw [vp_cell_i]
    exact arrV_new _ _ _
  have hrow : ∀ z : Nat, z < i.toNatClampNeg → F1.heap[H.size + 1 + z]? = some (vp_cell (g_c G 0) (j.toNatClampNeg, .inl fun _ => 0)) := fun z hz9 => by
    have := Jvm.Free.Multi.fill_inner (T.setVm vm₁) (g_c G 3) (g_c G 0) i.toNatClampNeg j.toNatClampNeg (defaultValue .int) i.toNatClampNeg z hz9
    rw [hF, hTh, hz] at this
    exact this
  have hout : Jvm.Free.Multi.outerC (g_c G 3) i.toNatClampNeg H.size i.toNatClampNeg = vp_cell (g_c G 3) (i.toNatClampNeg, .inr (.inr (.inr (.inr (fun z => if z < i.toNatClampNeg then some (H.size + 1 + z) else none))))) := by
    rw [vp_cell_q]
    exact vr_outer (g_c G 3) i.toNatClampNeg H.size i.toNatClampNeg
  rw [hout] at f2
  rw [hM.1] at f1 f2 hrow hold
  have q := kk r hr p e s m args below meth c F1.heap locs A B hl ⟨f1, Nat.le_trans hM.2.1 (by show _ ≤ h.1 + 1 + _; omega), fun q x hq => by
    simp only [g_addM] at hq
    by_cases e1 : q = h.1
    · subst e1
      rw [if_pos rfl] at hq
      cases hq
      exact ⟨hM.2.1, f2⟩
    · rw [if_neg e1] at hq
      by_cases e2 : h.1 < q ∧ q < h.1 + 1 + i.toNatClampNeg
      · rw [if_pos e2] at hq
        cases hq
        refine ⟨Nat.le_trans hM.2.1 (Nat.le_of_lt e2.1), ?_⟩
        have := hrow (q - (h.1 + 1)) (by omega)
        rw [show h.1 + 1 + (q - (h.1 + 1)) = q by omega] at this
        exact this
      · rw [if_neg e2] at hq
        have h2 := hM.2.2 q x hq
        have h3 := h2.2.lt
        rw [hM.1] at h3
        exact ⟨h2.1, h2.2.kept (hold q h3)⟩⟩ ⟨by rw [f1]; have := hS.1; rw [hM.1] at this; omega, fun x h1 h2 => (hold x (by have := hS.1; rw [hM.1] at this; omega)).trans (hS.2.1 x h1 h2), hS.2.2⟩
  rw [hn] at q
  obtain ⟨t, a1, b1⟩ := q F1 rfl X'
  refine ⟨t, step t ?_, b1⟩
  have e : T.heap.size = h.1 := by rw [hT]; exact hM.1
  rw [e]
  exact a1
theorem X_bif_eq {x : Int32} {off : Int} {F1 F2 : Option α} (hd : g_lk (m_code M) pc = some (.ifCond .eq off, nx, x1, x2)) (hn : nx = pc + 3) (kt : (x = 0) → GX l G M Φ k n x1 L st h F1) (kf : ¬ (x = 0) → GX l G M Φ k n nx L st h F2) : GX l G M Φ k n pc L (.int x :: st) h (if x = 0 then F1 else F2) := by
  by_cases hc : x = 0
  · rw [if_pos hc]
    exact X_if_eq hd hn (fun q => kt hc) (fun q => absurd hc q)
  · rw [if_neg hc]
    exact X_if_eq hd hn (fun q => absurd q hc) (fun q => kf hc)
theorem X_bPif_eq {x : Int32} {off : Int} {a1 a2 : α} (hd : g_lk (m_code M) pc = some (.ifCond .eq off, nx, x1, x2)) (hn : nx = pc + 3) (kt : (x = 0) → GX l G M Φ k n x1 L st h (some a1)) (kf : ¬ (x = 0) → GX l G M Φ k n nx L st h (some a2)) : GX l G M Φ k n pc L (.int x :: st) h (some (if x = 0 then a1 else a2)) := by
  by_cases hc : x = 0
  · rw [if_pos hc]
    exact X_if_eq hd hn (fun q => kt hc) (fun q => absurd hc q)
  · rw [if_neg hc]
    exact X_if_eq hd hn (fun q => absurd q hc) (fun q => kf hc)
theorem X_bif_ne {x : Int32} {off : Int} {F1 F2 : Option α} (hd : g_lk (m_code M) pc = some (.ifCond .ne off, nx, x1, x2)) (hn : nx = pc + 3) (kt : (x = 0) → GX l G M Φ k n nx L st h F1) (kf : ¬ (x = 0) → GX l G M Φ k n x1 L st h F2) : GX l G M Φ k n pc L (.int x :: st) h (if x = 0 then F1 else F2) := by
  by_cases hc : x = 0
  · rw [if_pos hc]
    exact X_if_ne hd hn (fun q => absurd hc q) (fun q => kt hc)
  · rw [if_neg hc]
    exact X_if_ne hd hn (fun q => kf hc) (fun q => absurd hc q)
theorem X_bPif_ne {x : Int32} {off : Int} {a1 a2 : α} (hd : g_lk (m_code M) pc = some (.ifCond .ne off, nx, x1, x2)) (hn : nx = pc + 3) (kt : (x = 0) → GX l G M Φ k n nx L st h (some a1)) (kf : ¬ (x = 0) → GX l G M Φ k n x1 L st h (some a2)) : GX l G M Φ k n pc L (.int x :: st) h (some (if x = 0 then a1 else a2)) := by
  by_cases hc : x = 0
  · rw [if_pos hc]
    exact X_if_ne hd hn (fun q => absurd hc q) (fun q => kt hc)
  · rw [if_neg hc]
    exact X_if_ne hd hn (fun q => kf hc) (fun q => absurd hc q)
theorem X_bif_lt {x : Int32} {off : Int} {F1 F2 : Option α} (hd : g_lk (m_code M) pc = some (.ifCond .lt off, nx, x1, x2)) (hn : nx = pc + 3) (kt : (0 ≤ x) → GX l G M Φ k n nx L st h F1) (kf : ¬ (0 ≤ x) → GX l G M Φ k n x1 L st h F2) : GX l G M Φ k n pc L (.int x :: st) h (if 0 ≤ x then F1 else F2) := by
  by_cases hc : 0 ≤ x
  · rw [if_pos hc]
    exact X_if_lt hd hn (fun q => absurd (Int32.not_lt.mpr hc) (fun z => z q)) (fun q => kt hc)
  · rw [if_neg hc]
    exact X_if_lt hd hn (fun q => kf hc) (fun q => absurd (Int32.not_lt.mp q) hc)
theorem X_bPif_lt {x : Int32} {off : Int} {a1 a2 : α} (hd : g_lk (m_code M) pc = some (.ifCond .lt off, nx, x1, x2)) (hn : nx = pc + 3) (kt : (0 ≤ x) → GX l G M Φ k n nx L st h (some a1)) (kf : ¬ (0 ≤ x) → GX l G M Φ k n x1 L st h (some a2)) : GX l G M Φ k n pc L (.int x :: st) h (some (if 0 ≤ x then a1 else a2)) := by
  by_cases hc : 0 ≤ x
  · rw [if_pos hc]
    exact X_if_lt hd hn (fun q => absurd (Int32.not_lt.mpr hc) (fun z => z q)) (fun q => kt hc)
  · rw [if_neg hc]
    exact X_if_lt hd hn (fun q => kf hc) (fun q => absurd (Int32.not_lt.mp q) hc)
theorem X_bif_ge {x : Int32} {off : Int} {F1 F2 : Option α} (hd : g_lk (m_code M) pc = some (.ifCond .ge off, nx, x1, x2)) (hn : nx = pc + 3) (kt : (x < 0) → GX l G M Φ k n nx L st h F1) (kf : ¬ (x < 0) → GX l G M Φ k n x1 L st h F2) : GX l G M Φ k n pc L (.int x :: st) h (if x < 0 then F1 else F2) := by
  by_cases hc : x < 0
  · rw [if_pos hc]
    exact X_if_ge hd hn (fun q => absurd hc (Int32.not_lt.mpr q)) (fun q => kt hc)
  · rw [if_neg hc]
    exact X_if_ge hd hn (fun q => kf hc) (fun q => absurd (Int32.not_le.mp q) hc)
theorem X_bPif_ge {x : Int32} {off : Int} {a1 a2 : α} (hd : g_lk (m_code M) pc = some (.ifCond .ge off, nx, x1, x2)) (hn : nx = pc + 3) (kt : (x < 0) → GX l G M Φ k n nx L st h (some a1)) (kf : ¬ (x < 0) → GX l G M Φ k n x1 L st h (some a2)) : GX l G M Φ k n pc L (.int x :: st) h (some (if x < 0 then a1 else a2)) := by
  by_cases hc : x < 0
  · rw [if_pos hc]
    exact X_if_ge hd hn (fun q => absurd hc (Int32.not_lt.mpr q)) (fun q => kt hc)
  · rw [if_neg hc]
    exact X_if_ge hd hn (fun q => kf hc) (fun q => absurd (Int32.not_le.mp q) hc)
theorem X_bif_gt {x : Int32} {off : Int} {F1 F2 : Option α} (hd : g_lk (m_code M) pc = some (.ifCond .gt off, nx, x1, x2)) (hn : nx = pc + 3) (kt : (x ≤ 0) → GX l G M Φ k n nx L st h F1) (kf : ¬ (x ≤ 0) → GX l G M Φ k n x1 L st h F2) : GX l G M Φ k n pc L (.int x :: st) h (if x ≤ 0 then F1 else F2) := by
  by_cases hc : x ≤ 0
  · rw [if_pos hc]
    exact X_if_gt hd hn (fun q => absurd (Int32.not_lt.mpr hc) (fun z => z q)) (fun q => kt hc)
  · rw [if_neg hc]
    exact X_if_gt hd hn (fun q => kf hc) (fun q => absurd (Int32.not_lt.mp q) hc)
theorem X_bPif_gt {x : Int32} {off : Int} {a1 a2 : α} (hd : g_lk (m_code M) pc = some (.ifCond .gt off, nx, x1, x2)) (hn : nx = pc + 3) (kt : (x ≤ 0) → GX l G M Φ k n nx L st h (some a1)) (kf : ¬ (x ≤ 0) → GX l G M Φ k n x1 L st h (some a2)) : GX l G M Φ k n pc L (.int x :: st) h (some (if x ≤ 0 then a1 else a2)) := by
  by_cases hc : x ≤ 0
  · rw [if_pos hc]
    exact X_if_gt hd hn (fun q => absurd (Int32.not_lt.mpr hc) (fun z => z q)) (fun q => kt hc)
  · rw [if_neg hc]
    exact X_if_gt hd hn (fun q => kf hc) (fun q => absurd (Int32.not_lt.mp q) hc)
theorem X_bif_le {x : Int32} {off : Int} {F1 F2 : Option α} (hd : g_lk (m_code M) pc = some (.ifCond .le off, nx, x1, x2)) (hn : nx = pc + 3) (kt : (0 < x) → GX l G M Φ k n nx L st h F1) (kf : ¬ (0 < x) → GX l G M Φ k n x1 L st h F2) : GX l G M Φ k n pc L (.int x :: st) h (if 0 < x then F1 else F2) := by
  by_cases hc : 0 < x
  · rw [if_pos hc]
    exact X_if_le hd hn (fun q => absurd hc (Int32.not_lt.mpr q)) (fun q => kt hc)
  · rw [if_neg hc]
    exact X_if_le hd hn (fun q => kf hc) (fun q => absurd (Int32.not_le.mp q) hc)
theorem X_bPif_le {x : Int32} {off : Int} {a1 a2 : α} (hd : g_lk (m_code M) pc = some (.ifCond .le off, nx, x1, x2)) (hn : nx = pc + 3) (kt : (0 < x) → GX l G M Φ k n nx L st h (some a1)) (kf : ¬ (0 < x) → GX l G M Φ k n x1 L st h (some a2)) : GX l G M Φ k n pc L (.int x :: st) h (some (if 0 < x then a1 else a2)) := by
  by_cases hc : 0 < x
  · rw [if_pos hc]
    exact X_if_le hd hn (fun q => absurd hc (Int32.not_lt.mpr q)) (fun q => kt hc)
  · rw [if_neg hc]
    exact X_if_le hd hn (fun q => kf hc) (fun q => absurd (Int32.not_le.mp q) hc)
theorem X_bicmp_eq {x y : Int32} {off : Int} {F1 F2 : Option α} (hd : g_lk (m_code M) pc = some (.if_icmp .eq off, nx, x1, x2)) (hn : nx = pc + 3) (kt : (x = y) → GX l G M Φ k n x1 L st h F1) (kf : ¬ (x = y) → GX l G M Φ k n nx L st h F2) : GX l G M Φ k n pc L (.int y :: .int x :: st) h (if x = y then F1 else F2) := by
  by_cases hc : x = y
  · rw [if_pos hc]
    exact X_icmp_eq hd hn (fun q => kt hc) (fun q => absurd hc q)
  · rw [if_neg hc]
    exact X_icmp_eq hd hn (fun q => absurd q hc) (fun q => kf hc)
theorem X_bPicmp_eq {x y : Int32} {off : Int} {a1 a2 : α} (hd : g_lk (m_code M) pc = some (.if_icmp .eq off, nx, x1, x2)) (hn : nx = pc + 3) (kt : (x = y) → GX l G M Φ k n x1 L st h (some a1)) (kf : ¬ (x = y) → GX l G M Φ k n nx L st h (some a2)) : GX l G M Φ k n pc L (.int y :: .int x :: st) h (some (if x = y then a1 else a2)) := by
  by_cases hc : x = y
  · rw [if_pos hc]
    exact X_icmp_eq hd hn (fun q => kt hc) (fun q => absurd hc q)
  · rw [if_neg hc]
    exact X_icmp_eq hd hn (fun q => absurd q hc) (fun q => kf hc)
theorem X_bicmp_ne {x y : Int32} {off : Int} {F1 F2 : Option α} (hd : g_lk (m_code M) pc = some (.if_icmp .ne off, nx, x1, x2)) (hn : nx = pc + 3) (kt : (x = y) → GX l G M Φ k n nx L st h F1) (kf : ¬ (x = y) → GX l G M Φ k n x1 L st h F2) : GX l G M Φ k n pc L (.int y :: .int x :: st) h (if x = y then F1 else F2) := by
  by_cases hc : x = y
  · rw [if_pos hc]
    exact X_icmp_ne hd hn (fun q => absurd hc q) (fun q => kt hc)
  · rw [if_neg hc]
    exact X_icmp_ne hd hn (fun q => kf hc) (fun q => absurd hc q)
theorem X_bPicmp_ne {x y : Int32} {off : Int} {a1 a2 : α} (hd : g_lk (m_code M) pc = some (.if_icmp .ne off, nx, x1, x2)) (hn : nx = pc + 3) (kt : (x = y) → GX l G M Φ k n nx L st h (some a1)) (kf : ¬ (x = y) → GX l G M Φ k n x1 L st h (some a2)) : GX l G M Φ k n pc L (.int y :: .int x :: st) h (some (if x = y then a1 else a2)) := by
  by_cases hc : x = y
  · rw [if_pos hc]
    exact X_icmp_ne hd hn (fun q => absurd hc q) (fun q => kt hc)
  · rw [if_neg hc]
    exact X_icmp_ne hd hn (fun q => kf hc) (fun q => absurd hc q)
theorem X_bicmp_lt {x y : Int32} {off : Int} {F1 F2 : Option α} (hd : g_lk (m_code M) pc = some (.if_icmp .lt off, nx, x1, x2)) (hn : nx = pc + 3) (kt : (y ≤ x) → GX l G M Φ k n nx L st h F1) (kf : ¬ (y ≤ x) → GX l G M Φ k n x1 L st h F2) : GX l G M Φ k n pc L (.int y :: .int x :: st) h (if y ≤ x then F1 else F2) := by
  by_cases hc : y ≤ x
  · rw [if_pos hc]
    exact X_icmp_lt hd hn (fun q => absurd (Int32.not_lt.mpr hc) (fun z => z q)) (fun q => kt hc)
  · rw [if_neg hc]
    exact X_icmp_lt hd hn (fun q => kf hc) (fun q => absurd (Int32.not_lt.mp q) hc)
theorem X_bPicmp_lt {x y : Int32} {off : Int} {a1 a2 : α} (hd : g_lk (m_code M) pc = some (.if_icmp .lt off, nx, x1, x2)) (hn : nx = pc + 3) (kt : (y ≤ x) → GX l G M Φ k n nx L st h (some a1)) (kf : ¬ (y ≤ x) → GX l G M Φ k n x1 L st h (some a2)) : GX l G M Φ k n pc L (.int y :: .int x :: st) h (some (if y ≤ x then a1 else a2)) := by
  by_cases hc : y ≤ x
  · rw [if_pos hc]
    exact X_icmp_lt hd hn (fun q => absurd (Int32.not_lt.mpr hc) (fun z => z q)) (fun q => kt hc)
  · rw [if_neg hc]
    exact X_icmp_lt hd hn (fun q => kf hc) (fun q => absurd (Int32.not_lt.mp q) hc)
theorem X_bicmp_ge {x y : Int32} {off : Int} {F1 F2 : Option α} (hd : g_lk (m_code M) pc = some (.if_icmp .ge off, nx, x1, x2)) (hn : nx = pc + 3) (kt : (x < y) → GX l G M Φ k n nx L st h F1) (kf : ¬ (x < y) → GX l G M Φ k n x1 L st h F2) : GX l G M Φ k n pc L (.int y :: .int x :: st) h (if x < y then F1 else F2) := by
  by_cases hc : x < y
  · rw [if_pos hc]
    exact X_icmp_ge hd hn (fun q => absurd hc (Int32.not_lt.mpr q)) (fun q => kt hc)
  · rw [if_neg hc]
    exact X_icmp_ge hd hn (fun q => kf hc) (fun q => absurd (Int32.not_le.mp q) hc)
theorem X_bPicmp_ge {x y : Int32} {off : Int} {a1 a2 : α} (hd : g_lk (m_code M) pc = some (.if_icmp .ge off, nx, x1, x2)) (hn : nx = pc + 3) (kt : (x < y) → GX l G M Φ k n nx L st h (some a1)) (kf : ¬ (x < y) → GX l G M Φ k n x1 L st h (some a2)) : GX l G M Φ k n pc L (.int y :: .int x :: st) h (some (if x < y then a1 else a2)) := by
  by_cases hc : x < y
  · rw [if_pos hc]
    exact X_icmp_ge hd hn (fun q => absurd hc (Int32.not_lt.mpr q)) (fun q => kt hc)
  · rw [if_neg hc]
    exact X_icmp_ge hd hn (fun q => kf hc) (fun q => absurd (Int32.not_le.mp q) hc)
theorem X_bicmp_gt {x y : Int32} {off : Int} {F1 F2 : Option α} (hd : g_lk (m_code M) pc = some (.if_icmp .gt off, nx, x1, x2)) (hn : nx = pc + 3) (kt : (x ≤ y) → GX l G M Φ k n nx L st h F1) (kf : ¬ (x ≤ y) → GX l G M Φ k n x1 L st h F2) : GX l G M Φ k n pc L (.int y :: .int x :: st) h (if x ≤ y then F1 else F2) := by
  by_cases hc : x ≤ y
  · rw [if_pos hc]
    exact X_icmp_gt hd hn (fun q => absurd (Int32.not_lt.mpr hc) (fun z => z q)) (fun q => kt hc)
  · rw [if_neg hc]
    exact X_icmp_gt hd hn (fun q => kf hc) (fun q => absurd (Int32.not_lt.mp q) hc)
theorem X_bPicmp_gt {x y : Int32} {off : Int} {a1 a2 : α} (hd : g_lk (m_code M) pc = some (.if_icmp .gt off, nx, x1, x2)) (hn : nx = pc + 3) (kt : (x ≤ y) → GX l G M Φ k n nx L st h (some a1)) (kf : ¬ (x ≤ y) → GX l G M Φ k n x1 L st h (some a2)) : GX l G M Φ k n pc L (.int y :: .int x :: st) h (some (if x ≤ y then a1 else a2)) := by
  by_cases hc : x ≤ y
  · rw [if_pos hc]
    exact X_icmp_gt hd hn (fun q => absurd (Int32.not_lt.mpr hc) (fun z => z q)) (fun q => kt hc)
  · rw [if_neg hc]
    exact X_icmp_gt hd hn (fun q => kf hc) (fun q => absurd (Int32.not_lt.mp q) hc)
theorem X_bicmp_le {x y : Int32} {off : Int} {F1 F2 : Option α} (hd : g_lk (m_code M) pc = some (.if_icmp .le off, nx, x1, x2)) (hn : nx = pc + 3) (kt : (y < x) → GX l G M Φ k n nx L st h F1) (kf : ¬ (y < x) → GX l G M Φ k n x1 L st h F2) : GX l G M Φ k n pc L (.int y :: .int x :: st) h (if y < x then F1 else F2) := by
  by_cases hc : y < x
  · rw [if_pos hc]
    exact X_icmp_le hd hn (fun q => absurd hc (Int32.not_lt.mpr q)) (fun q => kt hc)
  · rw [if_neg hc]
    exact X_icmp_le hd hn (fun q => kf hc) (fun q => absurd (Int32.not_le.mp q) hc)
theorem X_bPicmp_le {x y : Int32} {off : Int} {a1 a2 : α} (hd : g_lk (m_code M) pc = some (.if_icmp .le off, nx, x1, x2)) (hn : nx = pc + 3) (kt : (y < x) → GX l G M Φ k n nx L st h (some a1)) (kf : ¬ (y < x) → GX l G M Φ k n x1 L st h (some a2)) : GX l G M Φ k n pc L (.int y :: .int x :: st) h (some (if y < x then a1 else a2)) := by
  by_cases hc : y < x
  · rw [if_pos hc]
    exact X_icmp_le hd hn (fun q => absurd hc (Int32.not_lt.mpr q)) (fun q => kt hc)
  · rw [if_neg hc]
    exact X_icmp_le hd hn (fun q => kf hc) (fun q => absurd (Int32.not_le.mp q) hc)
theorem X_bnonnull {x : Option Nat} {off : Int} {F1 : Option α} {K : Nat → Option α} (hd : g_lk (m_code M) pc = some (.ifnonnull off, nx, x1, x2)) (hn : nx = pc + 3) (kf : x = none → GX l G M Φ k n nx L st h F1) (kt : ∀ a, x = some a → GX l G M Φ k n x1 L st h (K a)) : GX l G M Φ k n pc L (va_rf x :: st) h (x.elim F1 K) := by
  cases x with
  | none => exact X_ifnonnull hd hn (fun a e => by cases e) (fun _ => kf rfl)
  | some a => exact X_ifnonnull hd hn (fun a' e => by cases e; exact kt a rfl) (fun e => by cases e)
theorem X_bnull {x : Option Nat} {off : Int} {F1 : Option α} {K : Nat → Option α} (hd : g_lk (m_code M) pc = some (.ifnull off, nx, x1, x2)) (hn : nx = pc + 3) (kt : x = none → GX l G M Φ k n x1 L st h F1) (kf : ∀ a, x = some a → GX l G M Φ k n nx L st h (K a)) : GX l G M Φ k n pc L (va_rf x :: st) h (x.elim F1 K) := by
  cases x with
  | none => exact X_ifnull hd hn (fun _ => kt rfl) (fun a e => by cases e)
  | some a => exact X_ifnull hd hn (fun e => by cases e) (fun a' e => by cases e; exact kf a rfl)
/-- a value that isn't null -/
theorem X_nn {x : Option Nat} {K : Nat → Option α} (kk : ∀ a, x = some a → GX l G M Φ k n pc L st h (K a)) : GX l G M Φ k n pc L st h (x.bind K) := X_bind kk
theorem X_rfl {st' : List Value} (e : st = st') (kk : GX l G M Φ k n pc L st' h F) : GX l G M Φ k n pc L st h F := e ▸ kk
theorem X_astoreQ {j : Nat} {x : Option Nat} (hd : g_lk (m_code M) pc = some (.astore j, nx, x1, x2)) (hn : nx = pc + 2) (hj : Nat.blt j L.length = true) (hp : g_pl L j = true) (kk : GX l G M Φ k n nx (L.set j (some (va_rf x))) st h F) : GX l G M Φ k n pc L (va_rf x :: st) h F := by
  cases x with
  | some a => exact X_astore hd hn hj hp kk
  | none =>
    intro r hr p e s m args below meth c H locs A B hl hM hS
    have hg := g_dec B.2.2.2.2.2.2.2.2.2 hd hn
    have hj1 : j < m_nL M := by rw [← hl.2.2.1]; exact Nat.blt_eq.mp hj
    refine lv_astoreN B.1 B.2.1 hg hl.has hj1 rfl (fun A' h' => ?_)
    have q := kk r hr p e s m args below meth c H locs A' B (hl.put1 hp h') hM hS
    rw [hn] at q
    exact q
theorem X_astoreQ_n {j : Fin 4} {x : Option Nat} (hd : g_lk (m_code M) pc = some (.astore_n j, nx, x1, x2)) (hn : nx = pc + 1) (hj : Nat.blt (j : Nat) L.length = true) (hp : g_pl L (j : Nat) = true) (kk : GX l G M Φ k n nx (L.set (j : Nat) (some (va_rf x))) st h F) : GX l G M Φ k n pc L (va_rf x :: st) h F := by
  cases x with
  | some a => exact X_astore_n hd hn hj hp kk
  | none =>
    intro r hr p e s m args below meth c H locs A B hl hM hS
    have hg := g_dec B.2.2.2.2.2.2.2.2.2 hd hn
    have hj1 : (j : Nat) < m_nL M := by rw [← hl.2.2.1]; exact Nat.blt_eq.mp hj
    refine lv_astore_nN B.1 B.2.1 hg rfl hl.has hj1 rfl (fun A' h' => ?_)
    have q := kk r hr p e s m args below meth c H locs A' B (hl.put1 hp h') hM hS
    rw [hn] at q
    exact q
theorem X_aloadQ {j : Nat} {x : Option Nat} (hd : g_lk (m_code M) pc = some (.aload j, nx, x1, x2)) (hn : nx = pc + 2) (hx : L[j]? = some (some (va_rf x))) (kk : GX l G M Φ k n nx L (va_rf x :: st) h F) : GX l G M Φ k n pc L st h F := by
  cases x with
  | some a => exact X_aload hd hn hx kk
  | none =>
    intro r hr p e s m args below meth c H locs A B hl hM hS
    have hg := g_dec B.2.2.2.2.2.2.2.2.2 hd hn
    have q := kk r hr p e s m args below meth c H locs A B hl hM hS
    rw [hn] at q
    exact lv_aloadN B.1 B.2.1 hg (hl.at hx) q
theorem X_aloadQ_n {j : Fin 4} {x : Option Nat} (hd : g_lk (m_code M) pc = some (.aload_n j, nx, x1, x2)) (hn : nx = pc + 1) (hx : L[(j : Nat)]? = some (some (va_rf x))) (kk : GX l G M Φ k n nx L (va_rf x :: st) h F) : GX l G M Φ k n pc L st h F := by
  cases x with
  | some a => exact X_aload_n hd hn hx kk
  | none =>
    intro r hr p e s m args below meth c H locs A B hl hM hS
    have hg := g_dec B.2.2.2.2.2.2.2.2.2 hd hn
    have q := kk r hr p e s m args below meth c H locs A B hl hM hS
    rw [hn] at q
    exact lv_aload_nN B.1 B.2.1 hg rfl (hl.at hx) q
theorem X_tswIn {x v : Int32} {dflt lo hi off : Int} {offs : Array Int} {tgt len : Nat} (hd : g_lk (m_code M) pc = some (.tableswitch dflt lo hi offs, nx, x1, x2)) (hn : nx = pc + len) (e0 : x = v) (h1 : ¬ v.toInt < lo) (h2 : ¬ hi < v.toInt) (ho : offs[(v.toInt - lo).toNat]? = some off) (ht : (pc : Int) + off = (tgt : Int)) (kk : GX l G M Φ k n tgt L st h F) : GX l G M Φ k n pc L (.int x :: st) h F := by
  subst e0
  intro r hr p e s m args below meth c H locs A B hl hM hS
  have hg := g_dec B.2.2.2.2.2.2.2.2.2 hd hn
  exact lv_tableIn B.1 B.2.1 hg h1 h2 ho ht (kk r hr p e s m args below meth c H locs A B hl hM hS)
theorem X_tswOut {x : Int32} {dflt lo hi : Int} {offs : Array Int} {tgt len : Nat} (hd : g_lk (m_code M) pc = some (.tableswitch dflt lo hi offs, nx, x1, x2)) (hn : nx = pc + len) (h1 : x.toInt < lo ∨ hi < x.toInt) (ht : (pc : Int) + dflt = (tgt : Int)) (kk : GX l G M Φ k n tgt L st h F) : GX l G M Φ k n pc L (.int x :: st) h F := by
  intro r hr p e s m args below meth c H locs A B hl hM hS
  have hg := g_dec B.2.2.2.2.2.2.2.2.2 hd hn
  exact lv_tableOut B.1 B.2.1 hg h1 ht (kk r hr p e s m args below meth c H locs A B hl hM hS)
theorem X_lsw {x : Int32} {dflt off : Int} {ps : Array (Int × Int)} {tgt len : Nat} (hd : g_lk (m_code M) pc = some (.lookupswitch dflt ps, nx, x1, x2)) (hn : nx = pc + len) (hp : (ps.toList.zip (ps.toList.drop 1)).all (fun (a, next) => a.1 < next.1) = true) (ho : Op.lookupswitch.offset ps.toList dflt x.toInt = off) (ht : (pc : Int) + off = (tgt : Int)) (kk : GX l G M Φ k n tgt L st h F) : GX l G M Φ k n pc L (.int x :: st) h F := by
  intro r hr p e s m args below meth c H locs A B hl hM hS
  have hg := g_dec B.2.2.2.2.2.2.2.2.2 hd hn
  exact lv_lookup B.1 B.2.1 hg hp ho ht (kk r hr p e s m args below meth c H locs A B hl hM hS)
theorem X_ldc {idx : Nat} {v : Int32} (hd : g_lk (m_code M) pc = some (.ldc idx, nx, x1, x2)) (hn : nx = pc + 2) (hw : Cond.constant (m_y M).cls idx v ∈ lw_tbl) (kk : GX l G M Φ k n nx L (.int v :: st) h F) : GX l G M Φ k n pc L st h F := by
  intro r hr p e s m args below meth c H locs A B hl hM hS
  have hg := g_dec B.2.2.2.2.2.2.2.2.2 hd hn
  have q := kk r hr p e s m args below meth c H locs A B hl hM hS
  rw [hn] at q
  exact lv_ldc B.1 B.2.1 B.2.2.2.2.2.1 (B.2.2.2.2.2.2.1 _ hw rfl) hg q
theorem X_ldc2 {idx : Nat} {v : Int64} (hd : g_lk (m_code M) pc = some (.ldc2_w idx, nx, x1, x2)) (hn : nx = pc + 3) (hw : Cond.constantLong (m_y M).cls idx v ∈ lw_tbl) (kk : GX l G M Φ k n nx L (.long v :: st) h F) : GX l G M Φ k n pc L st h F := by
  intro r hr p e s m args below meth c H locs A B hl hM hS
  have hg := g_dec B.2.2.2.2.2.2.2.2.2 hd hn
  have q := kk r hr p e s m args below meth c H locs A B hl hM hS
  rw [hn] at q
  exact lv_ldc2 B.1 B.2.1 B.2.2.2.2.2.1 (B.2.2.2.2.2.2.1 _ hw rfl) hg q
theorem X_ldcS {idx i : Nat} {tx : String} (hd : g_lk (m_code M) pc = some (.ldc idx, nx, x1, x2)) (hn : nx = pc + 2) (hw : ((m_y M).cls, idx, tx, i) ∈ g_strs) (kk : GX l G M Φ k n nx L (.ref (g_aK G i) :: st) h F) : GX l G M Φ k n pc L st h F := by
  intro r hr p e s m args below meth c H locs A B hl hM hS
  have hg := g_dec B.2.2.2.2.2.2.2.2.2 hd hn
  have q := kk r hr p e s m args below meth c H locs A B hl hM hS
  rw [hn] at q
  exact va_ldcS B.1 B.2.1 B.2.2.2.2.2.1 (B.2.2.2.2.2.2.2.1.2.2.1 _ hw) hg q
theorem g_sub_0 : g_sub [] [] := trivial
theorem g_sub_n {x : Option Value} {t u : List (Option Value)} (h : g_sub t u) : g_sub (x :: t) (none :: u) := by
  cases x <;> exact h
theorem g_sub_s {v : Value} {t u : List (Option Value)} (h : g_sub t u) : g_sub (some v :: t) (some v :: u) := ⟨rfl, h⟩
theorem g_neI {x k : Int32} {a : Int} (h : ¬ x = k) (hk : k.toInt = a) : ¬ x.toInt = a := fun q => h (Int32.toInt_inj.mp (by rw [hk]; exact q))
/-- more turns of a loop than any run makes -/
def g_N : Nat := 8192
def g_rem (x y : Int32) : Int32 := x - x / y * y
end GXD
