/-! making cells, throwing, catching -/
section GXT
variable {α : Type} {l : Launch} {G : gG} {M : gMt} {Φ : α → Method → Code → State → Array Value → List Frame → State → Prop} {k n k1 n1 pc nx x1 x2 : Nat} {L : List (Option Value)} {st stk : List Value} {h : gH} {F : Option α}
/-- a cell is made: always well -/
def g_mk (h : gH) (x : gC) : Option gH := some (g_add h x)
def g_mkM (h : gH) (N K : Nat) : Option gH := some (g_addM h N K)
theorem X_newO {idx ci : Nat} {K : gH → Option α} (hd : g_lk (m_code M) pc = some (.new idx, nx, ci, x2)) (hn : nx = pc + 3) (hk1 : k + 1 = k1) (hn1 : n + g_nf ci = n1) (hk : Nat.ble k1 (m_R M).cells = true) (hs : Nat.ble n1 (m_R M).slots = true) (kk : ∀ h', GX l G M Φ k1 n1 nx L (.ref h.1 :: st) h' (K h')) : GX l G M Φ k n pc L st h ((g_mk h (.inr (ci, g_dfl ci))).bind K) := by
  subst hk1; subst hn1
  exact X_new hd hn hk hs (kk _)
theorem X_newarrO {at0 : ArrayType} {t N : Nat} {i : Int32} {y : vp_A} {K : gH → Option α} (hd : g_lk (m_code M) pc = some (.newarray at0, nx, x1, x2)) (hn : nx = pc + 2) (hk1 : k + 1 = k1) (hn1 : n + N = n1) (harr : Cond.arrayClass (newarray.typeOf at0) ∈ lw_tbl) (ht : (g_tl (g_c G))[t]? = some (g_c G t, newarray.typeOf at0)) (hi : ¬ i < 0) (hN : i.toNatClampNeg = N) (hbytes : Nat.ble (N * componentBytes (newarray.typeOf at0)) 536870912 = true) (hk : Nat.ble k1 (m_R M).cells = true) (hs : Nat.ble n1 (m_R M).slots = true) (hy : ∀ cA : ClassId, vp_cell cA y = arrV cA N (fun _ => defaultValue (newarray.typeOf at0)))
    (kk : ∀ h', GX l G M Φ k1 n1 nx L (.ref h.1 :: st) h' (K h')) : GX l G M Φ k n pc L (.int i :: st) h ((g_mk h (.inl (t, y))).bind K) := by
  subst hk1; subst hn1
  exact X_newarr hd hn harr ht hi hN hbytes hk hs hy (kk _)
theorem X_anewO {idx t N : Nat} {i : Int32} {C : String} {K : gH → Option α} (hd : g_lk (m_code M) pc = some (.anewarray idx, nx, x1, x2)) (hn : nx = pc + 3) (hk1 : k + 1 = k1) (hn1 : n + N = n1) (hlk : Cond.classLink (m_y M).cls idx C ∈ lw_tbl) (hov : Cond.arrayOver (.object C) ∈ lw_tbl) (ht : (g_tl (g_c G))[t]? = some (g_c G t, .object C)) (hi : ¬ i < 0) (hN : i.toNatClampNeg = N) (hb : Nat.ble (N * 4) 536870912 = true) (hk : Nat.ble k1 (m_R M).cells = true) (hs : Nat.ble n1 (m_R M).slots = true) (kk : ∀ h', GX l G M Φ k1 n1 nx L (.ref h.1 :: st) h' (K h')) : GX l G M Φ k n pc L (.int i :: st) h ((g_mk h (.inl (t, N, .inr (.inr (.inr (.inr (fun _ => none))))))).bind K) := by
  subst hk1; subst hn1
  exact X_anew hd hn hlk hov ht hi hN hb hk hs (kk _)
theorem X_mnaO {idx N K0 : Nat} {i j : Int32} {K : gH → Option α} (hd : g_lk (m_code M) pc = some (.multianewarray idx 2, nx, x1, x2)) (hn : nx = pc + 4) (hk1 : k + 1 + N = k1) (hn1 : n + N + N * K0 = n1) (hlk : Cond.classLink (m_y M).cls idx ("[" ++ (FieldType.array .int).toString) ∈ lw_tbl) (hov : Cond.arrayOver (.array .int) ∈ lw_tbl) (har : Cond.arrayClass .int ∈ lw_tbl) (hi : ¬ i < 0) (hj : ¬ j < 0) (hN : i.toNatClampNeg = N) (hK0 : j.toNatClampNeg = K0) (hb1 : Nat.ble (N * 4) 536870912 = true) (hb2 : Nat.ble (K0 * componentBytes .int) 536870912 = true) (hb3 : Nat.ble K0 536870912 = true) (hk : Nat.ble (k + (1 + N)) (m_R M).cells = true) (hs : Nat.ble (n + (N + N * K0)) (m_R M).slots = true) (kk : ∀ h', GX l G M Φ k1 n1 nx L (.ref h.1 :: st) h' (K h')) : GX l G M Φ k n pc L (.int j :: .int i :: st) h ((g_mkM h N K0).bind K) := by
  subst hk1; subst hn1
  exact X_mna hd hn hlk hov har hi hj hN hK0 hb1 hb2 hb3 hk hs (kk _)
theorem X_callI_U {M' : gMt} {idx nA b : Nat} {As : List Value} {f : Option gH} {K : gH → Option α} (hd : g_lk (m_code M) pc = some (.invokespecial idx, nx, x1, x2)) (hn : nx = pc + 3) (hs : g_site M M' (.invokespecial idx) nA = true) (hlen : As.length = nA) (hstk : stk = As.reverse ++ .ref b :: st) (hst : Nat.ble ((st.map fun v => v.category).sum) 8 = true) (hk1 : k + (m_R M').cells = k1) (hn1 : n + (m_R M').slots = n1) (hk : Nat.ble k1 (m_R M).cells = true) (hsl : Nat.ble n1 (m_R M).slots = true) (hC : ∀ h1, f = some h1 → Ct l G M' (.ref b :: As) h none h1) (kk : ∀ h1, GX l G M Φ k1 n1 nx L st h1 (K h1)) : GX l G M Φ k n pc L stk h (f.bind K) := by
  subst hk1; subst hn1
  exact X_bind fun x hx => X_callI hd hn hs hlen hstk hst (hC x hx) hk hsl (kk x)
theorem X_callIN_U {M' : gMt} {idx nA b : Nat} {As : List Value} {f : Option gH} {K : gH → Option α} (hd : g_lk (m_code M) pc = some (.invokespecial idx, nx, x1, x2)) (hn : nx = pc + 3) (hs : g_siteN M M' (.invokespecial idx) nA = true) (hlen : As.length = nA) (hstk : stk = As.reverse ++ .ref b :: st) (hst : Nat.ble ((st.map fun v => v.category).sum) 8 = true) (hk1 : k + (m_R M').cells = k1) (hn1 : n + (m_R M').slots = n1) (hk : Nat.ble k1 (m_R M).cells = true) (hsl : Nat.ble n1 (m_R M).slots = true) (hC : ∀ h1, f = some h1 → Ct l G M' (.ref b :: As) h none h1) (kk : ∀ h1, GX l G M Φ k1 n1 nx L st h1 (K h1)) : GX l G M Φ k n pc L stk h (f.bind K) := by
  subst hk1; subst hn1
  exact X_bind fun x hx => X_callIN hd hn hs hlen hstk hst (hC x hx) hk hsl (kk x)
end GXT
/-- the exceptions of the face -/
def g_exn : Nat → String
  | 1 => "java/lang/IllegalArgumentException"
  | 2 => "java/lang/IndexOutOfBoundsException"
  | 3 => "java/util/NoSuchElementException"
  | _ => "java/lang/IllegalStateException"
/-- the end: v is returned, the cells are those of f -/
def g_QcE (G : gG) (o : Option Value) (f : Nat → Option gC) : Array Value → State → Outcome → State → Prop := fun _ st oc t => oc = .returned o ∧ (∃ n', g_M G (n', f) t.heap) ∧ st.heap.size ≤ t.heap.size ∧ ∀ q : Nat, q < g_b G → t.heap[q]? = st.heap[q]?
/-- the end: the exception c is thrown, the cells are those of f -/
def g_XC (G : gG) (c : Nat) (f : Nat → Option gC) : String → State → State → Prop := fun E st t => E = g_exn c ∧ (∃ n', g_M G (n', f) t.heap) ∧ t.heap.size = st.heap.size + 1 ∧ ∀ q : Nat, q < g_b G → t.heap[q]? = st.heap[q]?
def g_QcX (G : gG) (o : Nat ⊕ Option Value) (h' : gH) : Array Value → State → Outcome → State → Prop := match o with
  | .inr v => g_Qc G v h'
  | .inl _ => fun _ _ _ _ => False
def g_XCX (G : gG) (o : Nat ⊕ Option Value) (h' : gH) : String → State → State → Prop := match o with
  | .inl c => g_XC G c h'.2
  | .inr _ => fun _ _ _ => False
/-- THE CONTRACT of a method that returns or throws -/
def Cx (l : Launch) (G : gG) (M : gMt) (As : List Value) (h : gH) (o : Nat ⊕ Option Value) (h' : gH) : Prop :=
  vx_Met l (m_y M) (g_ws M) (m_R M) (va_Pc As (fun U => g_K G U U.heap ∧ g_M G h U.heap)) (g_QcX G o h') (g_XCX G o h') (m_R M).cells (m_R M).slots (g_A G)
def g_phx {α : Type} (G : gG) (ρ : α → (Nat ⊕ Option Value) × gH) (mc ms : Nat) : α → Method → Code → State → Array Value → List Frame → State → Prop := fun r _ _ s args below => vx_MQ below (g_QcX G (ρ r).1 (ρ r).2) (g_XCX G (ρ r).1 (ρ r).2) args s mc ms (g_A G)
def g_xI : (Nat ⊕ Int32) × gH → (Nat ⊕ Option Value) × gH := fun y => (match y.1 with | .inl c => .inl c | .inr x => .inr (some (.int x)), y.2)
def g_names : List String := ["java/lang/RuntimeException", "java/lang/Exception"]
def g_thrOk (own : String) (ic c : Nat) : Bool := (vx_atS own ic (g_exn c) g_names).all fun w => decide (w ∈ lw_tbl) && ((goodWord w || (w.faceAtom && w.onTables)) && vx_ot w)
section GXV
variable {α : Type} {l : Launch} {G : gG} {M : gMt} {Φ : α → Method → Code → State → Array Value → List Frame → State → Prop} {k n pc nx x1 x2 : Nat} {L : List (Option Value)} {st stk : List Value} {h : gH} {F : Option α}
theorem X_vx {ρ : α → (Nat ⊕ Option Value) × gH} {mc ms : Nat} {r0 : α} {v : Option Value} {h' : gH} (hρ : ρ r0 = (.inr v, h')) (kk : GX l G M (g_phi G (fun _ : α => (v, h')) mc ms) k n pc L st h (some r0)) : GX l G M (g_phx G ρ mc ms) k n pc L st h (some r0) := by
  intro r hr p e s m args below meth c H locs A B hl hM hS
  cases hr
  have q := kk r0 rfl p e s m args below meth c H locs A B hl hM hS
  unfold g_phx
  rw [hρ]
  exact vx_ret q
theorem X_throw {cx ik is ic i : Nat} {tx : String} {ρ : α → (Nat ⊕ Option Value) × gH} {r0 : α} {mc ms : Nat} {h' : gH} (hl : l.stackTraces = false) (d0 : decode (m_cc M) pc = .ok (.new ik, 3)) (d3 : decode (m_cc M) (pc + 3) = .ok (.dup, 1)) (d4 : decode (m_cc M) (pc + 4) = .ok (.ldc is, 2)) (d6 : decode (m_cc M) (pc + 6) = .ok (.invokespecial ic, 3)) (d9 : decode (m_cc M) (pc + 9) = .ok (.athrow, 1))
    (hcx : Bundle.fit (g_exn cx) = true) (hlk : Cond.classLink (m_y M).cls ik (g_exn cx) ∈ lw_tbl) (hini : Cond.initialized (g_exn cx) ∈ lw_tbl) (hstr : ((m_y M).cls, is, tx, i) ∈ g_strs) (hat : g_thrOk (m_y M).cls ic cx = true) (hmh : m_h M = []) (hnl : (m_y M).name ≠ "law") (hf : Nat.ble 6 (m_R M).frames = true) (hlo : Nat.ble ((st.map fun v => v.category).sum + 82) (m_R M).locals = true) (hk : Nat.ble (k + 1) mc = true) (hs : Nat.ble (n + 6) ms = true) (hR1 : Nat.ble mc (m_R M).cells = true) (hR2 : Nat.ble ms (m_R M).slots = true) (hρ : ρ r0 = (.inl cx, h')) (hh : h'.2 = h.2) (hm1 : mc = 1 := by rfl) : GX l G M (g_phx G ρ mc ms) k n pc L st h (some r0) := by
  intro r hr p e s m args below meth c H locs A B hl9 hM hS
  cases hr
  have hts := B.2.2.2.2.2.2.1
  have hK := B.2.2.2.2.2.2.2.1
  have hk2 := Nat.le_of_ble_eq_true hk
  have hs2 := Nat.le_of_ble_eq_true hs
  have hR12 := Nat.le_of_ble_eq_true hR1
  have hR22 := Nat.le_of_ble_eq_true hR2
  have hall := List.all_eq_true.mp hat
  unfold g_phx
  rw [hρ]
  refine vx_throwS (names := g_names) (A := g_A G) (own := (m_y M).cls) (cls := g_exn cx) (text := tx) (sa := g_aK G i) B.1 B.2.1 hl B.2.2.2.2.2.1 hcx (by decide +kernel) (hts _ hlk rfl) (hts _ hini rfl) (hK.2.2.1 _ hstr) (fun w hw => ?_) (fun w hw => ?_) hK.2.2.2.2.1 hK.2.2.2.2.2.1 hS (by rw [B.2.2.1]; exact hl9.1) d0 d3 d4 d6 d9 (fun x hx => ?_) (by have := Nat.le_of_ble_eq_true hf; show 2 + 3 < _; omega) (by have := Nat.le_of_ble_eq_true hlo; show _ + (13 * (2 + 1) + 43) ≤ _; omega) (by omega) (by omega) B.2.2.2.2.1 (fun t hvm hz hz9 hq => ?_) hS.2.2 hk2 hs2
  · have h1 := hall w hw
    simp only [Bool.and_eq_true, Bool.or_eq_true, decide_eq_true_eq] at h1
    rcases h1.2.1 with h2 | h2
    · exact hts w h1.1 h2
    · exact va_tabs h2.2 rfl (hK.2.1 w (List.mem_filter.mpr ⟨h1.1, by unfold g_face; rw [h2.1]; rfl⟩))
  · rcases List.mem_cons.mp hw with rfl | hw
    · rfl
    · rcases List.mem_cons.mp hw with rfl | hw
      · rfl
      · have h1 := hall w hw
        simp only [Bool.and_eq_true] at h1
        exact h1.2.2
  · rw [B.2.2.2.2.2.2.2.2.1.2.2 hnl, hmh] at hx
    cases hx
  · refine ⟨rfl, ⟨t.heap.size, rfl, Nat.le_trans hM.2.1 (by rw [← hM.1]; exact Nat.le_of_lt hz), fun q x hx => ?_⟩, by have := hS.1; omega, fun q hqb => ?_⟩
    · rw [hh] at hx
      have h2 := hM.2.2 q x hx
      exact ⟨h2.1, h2.2.kept (hq q h2.2.lt)⟩
    · have hqs : q < s.heap.size := Nat.lt_of_lt_of_le hqb B.2.2.2.2.2.2.2.2.1.2.1
      rw [hq q (Nat.lt_of_lt_of_le hqs hS.1)]
      exact hS.2.1 q hqs (Nat.not_le.mpr hqb)
theorem Cx_of {ρ : α → (Nat ⊕ Option Value) × gH} {As : List Value} {h1 : gH} {o : Nat ⊕ Option Value} {r : α} (hok : g_ok M) (hpl : plainName (m_y M).cls = true) (hmh : m_h M = []) (hL : g_en As (m_nL M) = L) (hlen : L.length = m_nL M) (hn : Nat.ble (lg_sl As).length (m_nL M) = true) (body : GX l G M (g_phx G ρ (m_R M).cells (m_R M).slots) 0 0 0 L [] h F) (hF : F = some r) (hρ : ρ r = (o, h1)) : Cx l G M As h o h1 := by
  refine vx_ofW (cc := m_cc M) (maxL := m_nL M) (ret := m_ret M) hpl rfl ?_
  intro p e s m args below meth c s₁ B hml ht hv
  obtain ⟨rfl, hK, hM⟩ := hv
  have hts := atoms_spec (ws := g_ws M) B.pre
  rw [lg_entry_eq]
  have hl0 := lv_entry As (n := m_nL M) (Nat.le_of_ble_eq_true hn)
  generalize (lg_sl As ++ List.replicate (m_nL M - (lg_sl As).length) Slot.unset).toArray = ls at hl0 ⊢
  have hl : g_ls ls (m_nL M) L := by
    refine ⟨hl0.1, hl0.2.1, hlen, fun i v hi => ?_⟩
    rw [← hL] at hi
    have := g_en_at As (m_nL M) 0 i v hi
    rw [Nat.zero_add] at this
    exact hl0.2.2 _ this
  have htt : c.exceptionTable.toList = tableOf (m_h M) := by
    rw [hmh]
    cases hx : c.exceptionTable.toList with
    | nil => rfl
    | cons x y => exact (ht x (by rw [hx]; exact List.mem_cons_self)).elim
  have q := body r hF p e s m As.toArray below meth c s.heap [] ls ⟨B.exec, B.bytes, hml, B.returns, B.notSynchronized, findClass_of_methodNamed B.named, fun w hw hg => hts w (List.mem_cons_of_mem _ (List.mem_filter.mpr ⟨hw, hg⟩)), hK, ⟨fun h => by rw [(name_of_methodNamed B.named B.method).1]; exact h, by rw [hM.1]; exact hM.2.1, fun _ => htt⟩, hok⟩ hl hM va_S.rf
  unfold g_phx at q
  rw [hρ] at q
  exact q
/-- a call of a method that returns or throws, inside a try whose row x takes the exception -/
theorem X_callX {M' : gMt} {idx nA b ci : Nat} {As : List Value} {o : Nat ⊕ Option Value} {h1 : gH} (hd : g_lk (m_code M) pc = some (.invokevirtual idx, nx, x1, x2)) (hn : nx = pc + 3) (hs : g_site M M' (.invokevirtual idx) nA = true) (hlen : As.length = nA) (hstk : stk = As.reverse ++ .ref b :: st) (hst : Nat.ble ((st.map fun v => v.category).sum) 8 = true) (hrc : g_is h b ci = true ∧ g_cn ci = (m_y M').cls) (hC : Cx l G M' (.ref b :: As) h o h1) (hk : Nat.ble (k + (m_R M').cells) (m_R M).cells = true) (hsl : Nat.ble (n + (m_R M').slots) (m_R M).slots = true)
    (kv : ∀ v, o = .inr v → GX l G M Φ (k + (m_R M').cells) (n + (m_R M').slots) nx L (v.toList ++ st) h1 F)
    (kx : ∀ cx, o = .inl cx → ∃ (ps : List (ExceptionTableEntry × String)) (x : ExceptionTableEntry) (suf : List ExceptionTableEntry), tableOf (m_h M) = ps.map (fun z => z.1) ++ x :: suf ∧ (ps.all fun z => !(Nat.beq z.1.catchType 0) && decide (Cond.classLink (m_y M).cls z.1.catchType z.2 ∈ lw_tbl) && decide ((g_exn cx, z.2) ∈ g_nc)) = true ∧ covers x pc = true ∧ x.catchType ≠ 0 ∧ Cond.classLink (m_y M).cls x.catchType (g_exn cx) ∈ lw_tbl ∧ Cond.castable (g_exn cx) (g_exn cx) ∈ lw_tbl ∧ (m_y M).name ≠ "law" ∧ ∀ q, GX l G M Φ (k + (m_R M').cells) (n + (m_R M').slots) x.handlerPc L [.ref q] (h.1 + 1, h1.2) F) : GX l G M Φ k n pc L stk h F := by
  intro r hr p e s m args below meth c H locs A B hl hM hS
  have hg := g_dec B.2.2.2.2.2.2.2.2.2 hd hn
  unfold g_site at hs
  simp only [Bool.and_eq_true, decide_eq_true_eq] at hs
  obtain ⟨⟨⟨⟨⟨⟨⟨s1, s2⟩, s3⟩, s4⟩, s5⟩, s6⟩, s7⟩, ⟨s8, s10⟩, s9⟩ := hs
  have hts : ∀ w ∈ g_good, w.before args s = true := fun w hw => B.2.2.2.2.2.2.1 w (List.mem_filter.mp hw).1 (List.mem_filter.mp hw).2
  have ok : ∀ w ∈ lw_tbl, goodWord w = true → w.before args s = true := B.2.2.2.2.2.2.1
  have cb := callB_of (R := m_R M) (mc := (m_R M').cells) (ms := (m_R M').slots) (rm := m_R M') nA hts (g_goodIn s1) (ws' := g_good) rfl rfl rfl (ok _ s2 rfl) (ok _ s9 rfl) ⟨s3, s4, s5⟩ ⟨Nat.le_of_ble_eq_true s6, Nat.le_of_ble_eq_true s7⟩
  have hrun := vx_runV (As := As) (rest := st) (C := (m_y M').cls) (b := b) (H := H) (locs := locs) (cells := k) (slots := n) (below := below) (meth := meth) (e := e) (g := F0 m pc A stk) (cc := m_cc M) (nL := m_nL M) (index := idx) (Ts := g_good) (own := (m_y M).cls) ⟨B.1, B.2.1, B.2.2.1, B.2.2.2.2.2.1, hts⟩ hC ⟨cb, ok _ s8 rfl, ok _ s10 rfl⟩ ⟨g_blind, g_recv B hM hrc, fun U hU hW => ⟨rfl, by rw [hU]; exact (B.2.2.2.2.2.2.2.1.warm hW (fun a ha hna => hS.2.1 a ha hna)), by rw [hU]; exact hM⟩⟩ rfl hlen hl.1 hstk (lv_room (Nat.le_of_ble_eq_true hst)) hg ⟨Nat.le_of_ble_eq_true hk, Nat.le_of_ble_eq_true hsl⟩
  have hS1 : ∀ {t T' : State} {L1 : List Loc}, T'.heap = t.heap → H.size ≤ t.heap.size → (∀ q : Nat, q < g_b G → t.heap[q]? = H[q]?) → (∀ q ∈ L1, g_A G q.base) → va_S (g_A G) s.heap T'.heap (locs ++ L1) := by
    intro t T' L1 e1 hz hq hL
    exact ⟨Nat.le_trans hS.1 (by rw [e1]; exact hz), fun q h1 h2 => by
      have hqb : q < g_b G := Nat.not_le.mp h2
      rw [e1, hq q hqb]; exact hS.2.1 q h1 h2, fun q hq => by
      rcases List.mem_append.mp hq with h | h
      · exact hS.2.2 q h
      · exact hL q h⟩
  intro T hT X
  rcases hrun T hT X with ⟨v, st₀, t, T', L1, h0, X', hL, e1, e2, hQ, stp⟩ | ⟨q9, st₀, t, T', L1, E, ce, h0, X', hL, e1, e2, hQ, hce, hcv, hcl, stp⟩
  · cases o with
    | inl cx => exact hQ.elim
    | inr v0 =>
      obtain ⟨hv, hM', hz, hq⟩ := hQ
      cases hv
      rw [h0] at hz hq
      have q := kv v rfl r hr p e s m args below meth c T'.heap (locs ++ L1) A B hl (by rw [e1]; exact hM') (hS1 e1 hz hq hL)
      rw [hn] at q
      obtain ⟨t2, a1, b1⟩ := q T' rfl X'
      exact ⟨t2, stp t2 a1, b1⟩
  · cases o with
    | inr v0 => exact hQ.elim
    | inl cx =>
      obtain ⟨rfl, ⟨n', hM'⟩, hz, hq⟩ := hQ
      rw [h0] at hz hq
      obtain ⟨ps, x, suf, htab, hps, hcov, hct, hlk, hcast, hnl, kk⟩ := kx cx rfl
      have hn' : n' = h.1 + 1 := by
        have h1 := hM'.1
        have h2 := hM.1
        simp only at h1
        omega
      subst hn'
      have q := kk q9 r hr p e s m args below meth c T'.heap (locs ++ L1) A B hl (by rw [e1]; exact hM') (hS1 e1 (by omega) hq hL)
      have hcw : (Cond.castable (g_exn cx) (g_exn cx)).before args s = true := va_tabs rfl rfl (B.2.2.2.2.2.2.2.1.2.1 _ (List.mem_filter.mpr ⟨hcast, rfl⟩))
      have w := vx_catch (rest := st) (pc := pc) (H := T'.heap) (own := (m_y M).cls) (name := g_exn cx) (E := g_exn cx) (ce := ce) (q := q9) B.2.2.2.2.2.1 (ps.map (fun z => z.1)) x suf (by rw [B.2.2.2.2.2.2.2.2.1.2.2 hnl]; exact htab) (fun z hz9 => by
        obtain ⟨y, hy, rfl⟩ := List.mem_map.mp hz9
        have h9 := List.all_eq_true.mp hps y hy
        simp only [Bool.and_eq_true, decide_eq_true_eq, Bool.not_eq_true'] at h9
        refine Or.inr ⟨fun e0 => absurd h9.1.1 (by rw [e0]; decide), y.2, ok _ h9.1.2 rfl, B.2.2.2.2.2.2.2.1.2.2.2.2.2.2.2.2 _ h9.2⟩) hcov hct (ok _ hlk rfl) hcw (by rw [e1]; exact hce) hcv hcl q
      obtain ⟨t2, a1, b1⟩ := w T' rfl X'
      exact ⟨t2, stp.trans a1, b1⟩
end GXV
/-- the words of a method with handlers -/
def g_wsH (M : gMt) : List Cond := Cond.codeWith (m_y M) (m_cc M) (m_nL M) (m_ret M) (m_h M) :: g_good
/-- THE CONTRACT of a method with handlers, that returns; how many cells there are then is left open -/
def CtH (l : Launch) (G : gG) (M : gMt) (As : List Value) (h : gH) (o : Option Value) (f : Nat → Option gC) : Prop :=
  Met l (m_y M) (g_wsH M) (m_R M) (va_Pc As (fun U => g_K G U U.heap ∧ g_M G h U.heap)) (g_QcE G o f) (m_R M).cells (m_R M).slots (g_A G)
def g_phE (G : gG) (o : Option Value) (f : Nat → Option gC) (mc ms : Nat) : Unit → Method → Code → State → Array Value → List Frame → State → Prop := fun _ _ _ s args below => MQ below (g_QcE G o f) args s mc ms (g_A G)
theorem X_iretE {l : Launch} {G : gG} {M : gMt} {k n pc nx x1 x2 mc ms n0 : Nat} {L : List (Option Value)} {f : Nat → Option gC} {v : Int32} {ty : FieldType} {F : Option Unit} (hd : g_lk (m_code M) pc = some (.ireturn, nx, x1, x2)) (hn : nx = pc + 1) (hty : m_ret M = some ty) (hnr : narrow ty (.int v) = .int v) (hk : Nat.ble k mc = true) (hs : Nat.ble n ms = true) : GX l G M (g_phE G (some (.int v)) f mc ms) k n pc L [.int v] (n0, f) F := by
  intro r hr p e s m args below meth c H locs A B hl hM hS
  have hg := g_dec B.2.2.2.2.2.2.2.2.2 hd hn
  refine W.widen (Nat.le_of_ble_eq_true hk) (Nat.le_of_ble_eq_true hs) ?_
  exact W.zret B.1 B.2.1 (by rw [B.2.2.2.1]; exact hty) hnr (fun t ht hW => ⟨rfl, ⟨n0, by rw [ht]; exact hM⟩, by rw [ht]; exact hS.1, fun q hq => by
    rw [ht]
    exact hS.2.1 q (Nat.lt_of_lt_of_le hq B.2.2.2.2.2.2.2.2.1.2.1) (Nat.not_le.mpr hq)⟩) hS.2.2 hg B.2.2.2.2.1
theorem CtH_of {l : Launch} {G : gG} {M : gMt} {As : List Value} {L : List (Option Value)} {h : gH} {o : Option Value} {f : Nat → Option gC} (hok : g_ok M) (hpl : plainName (m_y M).cls = true) (hL : g_en As (m_nL M) = L) (hlen : L.length = m_nL M) (hn : Nat.ble (lg_sl As).length (m_nL M) = true) (body : GX l G M (g_phE G o f (m_R M).cells (m_R M).slots) 0 0 0 L [] h (some ())) : CtH l G M As h o f := by
  unfold CtH Met
  refine MetFree.of_bodyS (code := m_cc M) (maxLocals := m_nL M) (ret := m_ret M) hpl ?_ ?_
  · intro args s m h hn
    obtain ⟨m9, meth, c, hn9, h1, h2, h3, h4, -, h5, h6, -⟩ := Cond.codeWith_spec (atoms_spec (ws := g_wsH M) h _ List.mem_cons_self)
    cases hn.symm.trans hn9
    exact ⟨meth, c, h1, h2, h3, h4, h5, h6⟩
  · intro p e s m args below meth c s₁ B hml hv _
    obtain ⟨rfl, hK, hM⟩ := hv
    have hh0 : s₁.heap = s.heap := by rw [B.state]; rfl
    have hts := atoms_spec (ws := g_wsH M) B.pre
    have htt : c.exceptionTable.toList = tableOf (m_h M) := vx_table (x := m_y M) B (hts _ List.mem_cons_self)
    have hl0 := lv_entry As (n := m_nL M) (Nat.le_of_ble_eq_true hn)
    rw [lg_entry_eq]
    generalize (lg_sl As ++ List.replicate (m_nL M - (lg_sl As).length) Slot.unset).toArray = ls at hl0 ⊢
    have hl : g_ls ls (m_nL M) L := by
      refine ⟨hl0.1, hl0.2.1, hlen, fun i v hi => ?_⟩
      rw [← hL] at hi
      have := g_en_at As (m_nL M) 0 i v hi
      rw [Nat.zero_add] at this
      exact hl0.2.2 _ this
    have q := body () rfl p e s m As.toArray below meth c s.heap [] ls ⟨B.exec, B.bytes, hml, B.returns, B.notSynchronized, findClass_of_methodNamed B.named, fun w hw hg => hts w (List.mem_cons_of_mem _ (List.mem_filter.mpr ⟨hw, hg⟩)), hK, ⟨fun h => by rw [(name_of_methodNamed B.named B.method).1]; exact h, by rw [hM.1]; exact hM.2.1, fun _ => htt⟩, hok⟩ hl hM va_S.rf
    obtain ⟨t, a1, o9, b1, b2, b3⟩ := q s₁ hh0 (Stand.of_body B)
    exact ⟨t, o9, a1, b1, b2, ⟨b3.1, b3.2⟩⟩
/-- what the tables say of a site that calls a static method with handlers -/
def g_siteH (M M' : gMt) (idx nA : Nat) : Bool := decide (Cond.codeWith (m_y M') (m_cc M') (m_nL M') (m_ret M') (m_h M') ∈ lw_tbl) && decide (Cond.initialized (m_y M').cls ∈ lw_tbl) && decide ((m_y M').cls ≠ "java/lang/invoke/MethodHandle") && decide ((m_y M').cls ≠ "java/lang/invoke/VarHandle") && decide ((parseMethodDescriptor (m_y M').desc).map (fun d => d.parameters.length) = some nA) && Nat.ble ((m_R M').frames + 1) (m_R M).frames && Nat.ble (8 + (m_nL M' + 11) + (m_R M').locals) (m_R M).locals && decide (Cond.static (m_y M') ∈ lw_tbl) && decide (Cond.methodLink (m_y M).cls idx (m_y M') ∈ lw_tbl)
section GXW
variable {α : Type} {l : Launch} {G : gG} {M : gMt} {Φ : α → Method → Code → State → Array Value → List Frame → State → Prop} {k n pc nx x1 x2 : Nat} {L : List (Option Value)} {st stk : List Value} {h : gH} {F : Option α}
theorem X_callH {M' : gMt} {idx nA : Nat} {As : List Value} {o : Option Value} {f : Nat → Option gC} (hd : g_lk (m_code M) pc = some (.invokestatic idx, nx, x1, x2)) (hn : nx = pc + 3) (hs : g_siteH M M' idx nA = true) (hlen : As.length = nA) (hstk : stk = As.reverse ++ st) (hst : Nat.ble ((st.map fun v => v.category).sum) 8 = true) (hC : CtH l G M' As h o f) (hk : k + (m_R M').cells ≤ (m_R M).cells) (hsl : n + (m_R M').slots ≤ (m_R M).slots)
    (kk : ∀ n', GX l G M Φ (k + (m_R M').cells) (n + (m_R M').slots) nx L (o.toList ++ st) (n', f) F) : GX l G M Φ k n pc L stk h F := by
  intro r hr p e s m args below meth c H locs A B hl hM hS
  have hg := g_dec B.2.2.2.2.2.2.2.2.2 hd hn
  unfold g_siteH at hs
  simp only [Bool.and_eq_true, decide_eq_true_eq] at hs
  obtain ⟨⟨⟨⟨⟨⟨⟨⟨s1, s2⟩, s3⟩, s4⟩, s5⟩, s6⟩, s7⟩, s8⟩, s9⟩ := hs
  have hts : ∀ w ∈ g_good, w.before args s = true := fun w hw => B.2.2.2.2.2.2.1 w (List.mem_filter.mp hw).1 (List.mem_filter.mp hw).2
  have ok : ∀ w ∈ lw_tbl, goodWord w = true → w.before args s = true := B.2.2.2.2.2.2.1
  have hG : GoodIn g_good (g_wsH M') := by
    intro w hw
    rcases List.mem_cons.mp hw with rfl | hw
    · exact ⟨List.mem_filter.mpr ⟨s1, rfl⟩, good_of_word rfl⟩
    · exact ⟨hw, good_of_word (List.mem_filter.mp hw).2⟩
  have hc : Cond.codeWith (m_y M') (m_cc M') (m_nL M') (m_ret M') (m_h M') ∈ g_wsH M' := List.mem_cons_self
  have cw : vx_CSW (m_R M) s args (m_y M).cls idx (m_y M') (m_cc M') (m_nL M') (m_ret M') (m_h M') (g_wsH M') (m_R M') (m_R M').cells (m_R M').slots nA := by
    refine ⟨⟨rfl, rfl, Nat.le_of_ble_eq_true s6, Nat.le_of_ble_eq_true s7, pay_in hts hG, hc⟩, ok _ s1 rfl, ok _ s2 rfl, ⟨s3, s4⟩, fun sig h => ?_, ok _ s9 rfl, ok _ s8 rfl⟩
    rw [h] at s5
    exact (Option.some.inj s5).symm
  have hrun := vx_runSW (As := As) (rest := st) (H := H) (locs := locs) (cells := k) (slots := n) (below := below) (meth := meth) (e := e) (g := F0 m pc A stk) (cc := m_cc M) (nL := m_nL M) (index := idx) (Ts := g_good) (own := (m_y M).cls) ⟨B.1, B.2.1, B.2.2.1, B.2.2.2.2.2.1, hts⟩ hC cw ⟨g_blind, fun U hU hW => ⟨rfl, by rw [hU]; exact (B.2.2.2.2.2.2.2.1.warm hW (fun a ha hna => hS.2.1 a ha hna)), by rw [hU]; exact hM⟩⟩ rfl hlen hl.1 hstk (lv_room (Nat.le_of_ble_eq_true hst)) hg ⟨hk, hsl⟩
  intro T hT X
  obtain ⟨v, st₀, t, T', L1, h0, X', hL, e1, e2, ⟨hv, ⟨n', hM'⟩, hz, hq⟩, stp⟩ := hrun T hT X
  cases hv
  rw [h0] at hz hq
  have q := kk n' r hr p e s m args below meth c T'.heap (locs ++ L1) A B hl (by rw [e1]; exact hM') ⟨Nat.le_trans hS.1 (by rw [e1]; exact hz), fun q h1 h2 => by
      have hqb : q < g_b G := Nat.not_le.mp h2
      rw [e1, hq q hqb]; exact hS.2.1 q h1 h2, fun q hq => by
      rcases List.mem_append.mp hq with h | h
      · exact hS.2.2 q h
      · exact hL q h⟩
  rw [hn] at q
  obtain ⟨t2, a1, b1⟩ := q T' rfl X'
  exact ⟨t2, stp t2 a1, b1⟩
end GXW
