/-! calls and returns -/
def g_good : List Cond := lw_tbl.filter goodWord
def g_ws (M : gMt) : List Cond := Cond.code (m_y M) (m_cc M) (m_nL M) (m_ret M) :: g_good
def g_Qc (G : gG) (o : Option Value) (h' : gH) : Array Value → State → Outcome → State → Prop := fun _ st oc t => oc = .returned o ∧ g_M G h' t.heap ∧ st.heap.size ≤ t.heap.size ∧ ∀ q : Nat, q < g_b G → t.heap[q]? = st.heap[q]?
/-- A CONTRACT: the method M, called with As over the heap h, answers o and leaves the heap h' -/
def Ct (l : Launch) (G : gG) (M : gMt) (As : List Value) (h : gH) (o : Option Value) (h' : gH) : Prop :=
  Met l (m_y M) (g_ws M) (m_R M) (va_Pc As (fun U => g_K G U U.heap ∧ g_M G h U.heap)) (g_Qc G o h') (m_R M).cells (m_R M).slots (g_A G)
/-- what the tables say of a site that calls M' from M, with nA arguments -/
def g_site (M M' : gMt) (I : Instr) (nA : Nat) : Bool := decide (Cond.code (m_y M') (m_cc M') (m_nL M') (m_ret M') ∈ lw_tbl) && decide (Cond.initialized (m_y M').cls ∈ lw_tbl) && decide ((m_y M').cls ≠ "java/lang/invoke/MethodHandle") && decide ((m_y M').cls ≠ "java/lang/invoke/VarHandle") && decide ((parseMethodDescriptor (m_y M').desc).map (fun d => d.parameters.length) = some nA) && Nat.ble ((m_R M').frames + 1) (m_R M).frames && Nat.ble (8 + (m_nL M' + 11) + (m_R M').locals) (m_R M).locals && (match I with
  | .invokestatic idx => decide (Cond.static (m_y M') ∈ lw_tbl) && decide (Cond.methodLink (m_y M).cls idx (m_y M') ∈ lw_tbl)
  | .invokevirtual idx => decide (Cond.instanceMethod (m_y M') ∈ lw_tbl) && decide (Cond.selects (m_y M').cls (m_y M') (m_y M') ∈ lw_tbl) && decide (Cond.methodLink (m_y M).cls idx (m_y M') ∈ lw_tbl)
  | .invokespecial idx => decide (Cond.instanceMethod (m_y M') ∈ lw_tbl) && decide ((m_y M').name = "<init>") && decide (m_ret M' = none) && decide (Cond.methodLink (m_y M).cls idx (m_y M') ∈ lw_tbl)
  | _ => false)
/-- .. of a private member of a nest mate -/
def g_siteN (M M' : gMt) (I : Instr) (nA : Nat) : Bool := decide (Cond.code (m_y M') (m_cc M') (m_nL M') (m_ret M') ∈ lw_tbl) && decide (Cond.initialized (m_y M').cls ∈ lw_tbl) && decide ((m_y M').cls ≠ "java/lang/invoke/MethodHandle") && decide ((m_y M').cls ≠ "java/lang/invoke/VarHandle") && decide ((parseMethodDescriptor (m_y M').desc).map (fun d => d.parameters.length) = some nA) && Nat.ble ((m_R M').frames + 1) (m_R M).frames && Nat.ble (8 + (m_nL M' + 11) + (m_R M').locals) (m_R M).locals && (match I with
  | .invokestatic idx => decide (Cond.static (m_y M') ∈ lw_tbl) && decide (Cond.methodLinkNest (m_y M).cls idx (m_y M') "LampRelay" ∈ lw_tbl)
  | .invokespecial idx => decide (Cond.instanceMethod (m_y M') ∈ lw_tbl) && decide ((m_y M').name = "<init>") && decide (m_ret M' = none) && decide (Cond.methodLinkNest (m_y M).cls idx (m_y M') "LampRelay" ∈ lw_tbl)
  | _ => false)
theorem g_goodIn {M' : gMt} (h : Cond.code (m_y M') (m_cc M') (m_nL M') (m_ret M') ∈ lw_tbl) : GoodIn g_good (g_ws M') := by
  intro w hw
  rcases List.mem_cons.mp hw with rfl | hw
  · exact ⟨List.mem_filter.mpr ⟨h, rfl⟩, good_of_word rfl⟩
  · exact ⟨hw, good_of_word (List.mem_filter.mp hw).2⟩
theorem g_blind {G : gG} {As : List Value} {h : gH} : FrameBlind (va_Pc As (fun U => g_K G U U.heap ∧ g_M G h U.heap)) := by
  rintro a U g mk ⟨e, hK, hM⟩
  exact ⟨e, hK.warm (State.WarmedH.refl U) (fun _ _ _ => rfl), hM⟩
section GXC
variable {α : Type} {l : Launch} {G : gG} {M : gMt} {Φ : α → Method → Code → State → Array Value → List Frame → State → Prop} {k n pc nx x1 x2 : Nat} {L : List (Option Value)} {st stk : List Value} {h : gH} {F : Option α}
theorem g_after {p : Program} {e : Env} {s : State} {m : MethodId} {args : Array Value} {below : List Frame} {meth : Method} {c : Code} {H : Heap} {locs : List Loc} {A : Array Slot} {Q : State → Prop} {mc ms : Nat} {a : Array Value} {o : Option Value} {h1 : gH} (hr : va_Run p l e (m_R M) s m args below meth c H locs k n mc ms (F0 m pc A stk) st (g_Qc G o h1 a) (g_A G)) (hM : g_M G h H) (hB : g_b G ≤ s.heap.size) (hS : va_S (g_A G) s.heap H locs)
    (kk : ∀ (H1 : Heap) (locs1 : List Loc), g_M G h1 H1 → va_S (g_A G) s.heap H1 locs1 → W p l e (m_R M) s m args below meth c H1 locs1 (k + mc) (n + ms) Q (F0 m (pc + 3) A (o.toList ++ st))) : W p l e (m_R M) s m args below meth c H locs k n Q (F0 m pc A stk) := by
  intro T hT X
  obtain ⟨v, st₀, t, T', L1, h0, X', hL, e1, e2, ⟨hv, hM', hz, hq⟩, stp⟩ := hr T hT X
  cases hv
  rw [h0] at hz hq
  obtain ⟨t2, a1, b1⟩ := kk T'.heap (locs ++ L1) (by rw [e1]; exact hM') ⟨Nat.le_trans hS.1 (by rw [e1]; exact hz), fun q h1 h2 => by
      have hqb : q < g_b G := Nat.not_le.mp h2
      rw [e1, hq q hqb]; exact hS.2.1 q h1 h2, fun q hq => by
      rcases List.mem_append.mp hq with h | h
      · exact hS.2.2 q h
      · exact hL q h⟩ T' rfl X'
  exact ⟨t2, stp t2 a1, b1⟩
theorem X_callS {M' : gMt} {idx nA : Nat} {As : List Value} {o : Option Value} {h1 : gH} (hd : g_lk (m_code M) pc = some (.invokestatic idx, nx, x1, x2)) (hn : nx = pc + 3) (hs : g_site M M' (.invokestatic idx) nA = true) (hlen : As.length = nA) (hstk : stk = As.reverse ++ st) (hst : Nat.ble ((st.map fun v => v.category).sum) 8 = true) (hC : Ct l G M' As h o h1) (hk : Nat.ble (k + (m_R M').cells) (m_R M).cells = true) (hsl : Nat.ble (n + (m_R M').slots) (m_R M).slots = true)
    (kk : GX l G M Φ (k + (m_R M').cells) (n + (m_R M').slots) nx L (o.toList ++ st) h1 F) : GX l G M Φ k n pc L stk h F := by
  intro r hr p e s m args below meth c H locs A B hl hM hS
  have hg := g_dec B.2.2.2.2.2.2.2.2.2 hd hn
  unfold g_site at hs
  simp only [Bool.and_eq_true, decide_eq_true_eq] at hs
  obtain ⟨⟨⟨⟨⟨⟨⟨s1, s2⟩, s3⟩, s4⟩, s5⟩, s6⟩, s7⟩, s8, s9⟩ := hs
  have hts : ∀ w ∈ g_good, w.before args s = true := fun w hw => B.2.2.2.2.2.2.1 w (List.mem_filter.mp hw).1 (List.mem_filter.mp hw).2
  have ok : ∀ w ∈ lw_tbl, goodWord w = true → w.before args s = true := B.2.2.2.2.2.2.1
  have hB : g_b G ≤ s.heap.size ∨ True := Or.inr trivial
  have cb := callB_of (R := m_R M) (mc := (m_R M').cells) (ms := (m_R M').slots) (rm := m_R M') nA hts (g_goodIn s1) (ws' := g_good) rfl rfl rfl (ok _ s2 rfl) (ok _ s9 rfl) ⟨s3, s4, s5⟩ ⟨Nat.le_of_ble_eq_true s6, Nat.le_of_ble_eq_true s7⟩
  have hrun := va_runS (As := As) (rest := st) (H := H) (locs := locs) (cells := k) (slots := n) (below := below) (meth := meth) (e := e) (g := F0 m pc A stk) (cc := m_cc M) (nL := m_nL M) (index := idx) (Ts := g_good) (own := (m_y M).cls) ⟨B.1, B.2.1, B.2.2.1, B.2.2.2.2.2.1, hts⟩ hC ⟨cb, ok _ s8 rfl⟩ ⟨g_blind, fun U hU hW => ⟨rfl, by rw [hU]; exact (B.2.2.2.2.2.2.2.1.warm hW (fun a ha hna => hS.2.1 a ha hna)), by rw [hU]; exact hM⟩⟩ rfl hlen hl.1 hstk (lv_room (Nat.le_of_ble_eq_true hst)) hg ⟨Nat.le_of_ble_eq_true hk, Nat.le_of_ble_eq_true hsl⟩
  intro T hT X
  obtain ⟨v, st₀, t, T', L1, h0, X', hL, e1, e2, ⟨hv, hM', hz, hq⟩, stp⟩ := hrun T hT X
  cases hv
  rw [h0] at hz hq
  have q := kk r hr p e s m args below meth c T'.heap (locs ++ L1) A B hl (by rw [e1]; exact hM') ⟨Nat.le_trans hS.1 (by rw [e1]; exact hz), fun q h1 h2 => by
      have hqb : q < g_b G := Nat.not_le.mp h2
      rw [e1, hq q hqb]; exact hS.2.1 q h1 h2, fun q hq => by
      rcases List.mem_append.mp hq with h | h
      · exact hS.2.2 q h
      · exact hL q h⟩
  rw [hn] at q
  obtain ⟨t2, a1, b1⟩ := q T' rfl X'
  exact ⟨t2, stp t2 a1, b1⟩
theorem X_callSN {M' : gMt} {idx nA : Nat} {As : List Value} {o : Option Value} {h1 : gH} (hd : g_lk (m_code M) pc = some (.invokestatic idx, nx, x1, x2)) (hn : nx = pc + 3) (hs : g_siteN M M' (.invokestatic idx) nA = true) (hlen : As.length = nA) (hstk : stk = As.reverse ++ st) (hst : Nat.ble ((st.map fun v => v.category).sum) 8 = true) (hC : Ct l G M' As h o h1) (hk : Nat.ble (k + (m_R M').cells) (m_R M).cells = true) (hsl : Nat.ble (n + (m_R M').slots) (m_R M).slots = true)
    (kk : GX l G M Φ (k + (m_R M').cells) (n + (m_R M').slots) nx L (o.toList ++ st) h1 F) : GX l G M Φ k n pc L stk h F := by
  intro r hr p e s m args below meth c H locs A B hl hM hS
  have hg := g_dec B.2.2.2.2.2.2.2.2.2 hd hn
  unfold g_siteN at hs
  simp only [Bool.and_eq_true, decide_eq_true_eq] at hs
  obtain ⟨⟨⟨⟨⟨⟨⟨s1, s2⟩, s3⟩, s4⟩, s5⟩, s6⟩, s7⟩, s8, s9⟩ := hs
  have hts : ∀ w ∈ g_good, w.before args s = true := fun w hw => B.2.2.2.2.2.2.1 w (List.mem_filter.mp hw).1 (List.mem_filter.mp hw).2
  have ok : ∀ w ∈ lw_tbl, goodWord w = true → w.before args s = true := B.2.2.2.2.2.2.1
  have hNw : va_Nw (.methodLinkNest (m_y M).cls idx (m_y M') "LampRelay") s := B.2.2.2.2.2.2.2.1.2.1 _ (List.mem_filter.mpr ⟨s9, rfl⟩)
  have cb := va_cnB (R := m_R M) (mc := (m_R M').cells) (ms := (m_R M').slots) (rm := m_R M') nA hts (g_goodIn s1) (ws' := g_good) rfl rfl rfl hNw (ok _ s2 rfl) ⟨s3, s4, s5⟩ ⟨Nat.le_of_ble_eq_true s6, Nat.le_of_ble_eq_true s7⟩
  have hrun := va_runSN (As := As) (rest := st) (H := H) (locs := locs) (cells := k) (slots := n) (below := below) (meth := meth) (e := e) (g := F0 m pc A stk) (cc := m_cc M) (nL := m_nL M) (index := idx) (Ts := g_good) (own := (m_y M).cls) ⟨B.1, B.2.1, B.2.2.1, B.2.2.2.2.2.1, hts⟩ hC ⟨cb, ok _ s8 rfl, trivial⟩ ⟨g_blind, fun U hU hW => ⟨rfl, by rw [hU]; exact (B.2.2.2.2.2.2.2.1.warm hW (fun a ha hna => hS.2.1 a ha hna)), by rw [hU]; exact hM⟩⟩ rfl hlen hl.1 hstk (lv_room (Nat.le_of_ble_eq_true hst)) hg ⟨Nat.le_of_ble_eq_true hk, Nat.le_of_ble_eq_true hsl⟩
  intro T hT X
  obtain ⟨v, st₀, t, T', L1, h0, X', hL, e1, e2, ⟨hv, hM', hz, hq⟩, stp⟩ := hrun T hT X
  cases hv
  rw [h0] at hz hq
  have q := kk r hr p e s m args below meth c T'.heap (locs ++ L1) A B hl (by rw [e1]; exact hM') ⟨Nat.le_trans hS.1 (by rw [e1]; exact hz), fun q h1 h2 => by
      have hqb : q < g_b G := Nat.not_le.mp h2
      rw [e1, hq q hqb]; exact hS.2.1 q h1 h2, fun q hq => by
      rcases List.mem_append.mp hq with h | h
      · exact hS.2.2 q h
      · exact hL q h⟩
  rw [hn] at q
  obtain ⟨t2, a1, b1⟩ := q T' rfl X'
  exact ⟨t2, stp t2 a1, b1⟩
theorem g_recv {p : Program} {s : State} {m : MethodId} {args : Array Value} {meth : Method} {c : Code} {H : Heap} {b ci : Nat} {C : String} (B : g_bx G M p s m args meth c) (hM : g_M G h H) (hrc : g_is h b ci = true ∧ g_cn ci = C) : ∃ cellB : Cell, H[b]? = some cellB ∧ cellB.vm.isStatics = false ∧ s.vm.findClass C = some cellB.cls := by
  obtain ⟨hi, hcn⟩ := hrc
  obtain ⟨fs, hb⟩ := g_is_some hi
  obtain ⟨r9, h1, cell, g1, g2, g3, -⟩ := (hM.2.2 b _ hb).2
  refine ⟨cell, g1, by rw [g3]; rfl, ?_⟩
  have hcn' : C = r9.1 := by
    rw [← hcn]
    unfold g_cn
    rw [h1]
  rw [hcn', g2]
  exact (B.2.2.2.2.2.2.2.1.1.1 ci r9 h1).2.1
theorem X_callV {M' : gMt} {idx nA b ci : Nat} {As : List Value} {o : Option Value} {h1 : gH} (hd : g_lk (m_code M) pc = some (.invokevirtual idx, nx, x1, x2)) (hn : nx = pc + 3) (hs : g_site M M' (.invokevirtual idx) nA = true) (hlen : As.length = nA) (hstk : stk = As.reverse ++ .ref b :: st) (hst : Nat.ble ((st.map fun v => v.category).sum) 8 = true) (hrc : g_is h b ci = true ∧ g_cn ci = (m_y M').cls) (hC : Ct l G M' (.ref b :: As) h o h1) (hk : Nat.ble (k + (m_R M').cells) (m_R M).cells = true) (hsl : Nat.ble (n + (m_R M').slots) (m_R M).slots = true)
    (kk : GX l G M Φ (k + (m_R M').cells) (n + (m_R M').slots) nx L (o.toList ++ st) h1 F) : GX l G M Φ k n pc L stk h F := by
  intro r hr p e s m args below meth c H locs A B hl hM hS
  have hg := g_dec B.2.2.2.2.2.2.2.2.2 hd hn
  unfold g_site at hs
  simp only [Bool.and_eq_true, decide_eq_true_eq] at hs
  obtain ⟨⟨⟨⟨⟨⟨⟨s1, s2⟩, s3⟩, s4⟩, s5⟩, s6⟩, s7⟩, ⟨s8, s10⟩, s9⟩ := hs
  have hts : ∀ w ∈ g_good, w.before args s = true := fun w hw => B.2.2.2.2.2.2.1 w (List.mem_filter.mp hw).1 (List.mem_filter.mp hw).2
  have ok : ∀ w ∈ lw_tbl, goodWord w = true → w.before args s = true := B.2.2.2.2.2.2.1
  have cb := callB_of (R := m_R M) (mc := (m_R M').cells) (ms := (m_R M').slots) (rm := m_R M') nA hts (g_goodIn s1) (ws' := g_good) rfl rfl rfl (ok _ s2 rfl) (ok _ s9 rfl) ⟨s3, s4, s5⟩ ⟨Nat.le_of_ble_eq_true s6, Nat.le_of_ble_eq_true s7⟩
  have hrun := va_runV (As := As) (rest := st) (C := (m_y M').cls) (b := b) (H := H) (locs := locs) (cells := k) (slots := n) (below := below) (meth := meth) (e := e) (g := F0 m pc A stk) (cc := m_cc M) (nL := m_nL M) (index := idx) (Ts := g_good) (own := (m_y M).cls) ⟨B.1, B.2.1, B.2.2.1, B.2.2.2.2.2.1, hts⟩ hC ⟨cb, ok _ s8 rfl, ok _ s10 rfl⟩ ⟨g_blind, g_recv B hM hrc, fun U hU hW => ⟨rfl, by rw [hU]; exact (B.2.2.2.2.2.2.2.1.warm hW (fun a ha hna => hS.2.1 a ha hna)), by rw [hU]; exact hM⟩⟩ rfl hlen hl.1 hstk (lv_room (Nat.le_of_ble_eq_true hst)) hg ⟨Nat.le_of_ble_eq_true hk, Nat.le_of_ble_eq_true hsl⟩
  intro T hT X
  obtain ⟨v, st₀, t, T', L1, h0, X', hL, e1, e2, ⟨hv, hM', hz, hq⟩, stp⟩ := hrun T hT X
  cases hv
  rw [h0] at hz hq
  have q := kk r hr p e s m args below meth c T'.heap (locs ++ L1) A B hl (by rw [e1]; exact hM') ⟨Nat.le_trans hS.1 (by rw [e1]; exact hz), fun q h1 h2 => by
      have hqb : q < g_b G := Nat.not_le.mp h2
      rw [e1, hq q hqb]; exact hS.2.1 q h1 h2, fun q hq => by
      rcases List.mem_append.mp hq with h | h
      · exact hS.2.2 q h
      · exact hL q h⟩
  rw [hn] at q
  obtain ⟨t2, a1, b1⟩ := q T' rfl X'
  exact ⟨t2, stp t2 a1, b1⟩
theorem X_callI {M' : gMt} {idx nA b : Nat} {As : List Value} {o : Option Value} {h1 : gH} (hd : g_lk (m_code M) pc = some (.invokespecial idx, nx, x1, x2)) (hn : nx = pc + 3) (hs : g_site M M' (.invokespecial idx) nA = true) (hlen : As.length = nA) (hstk : stk = As.reverse ++ .ref b :: st) (hst : Nat.ble ((st.map fun v => v.category).sum) 8 = true) (hC : Ct l G M' (.ref b :: As) h o h1) (hk : Nat.ble (k + (m_R M').cells) (m_R M).cells = true) (hsl : Nat.ble (n + (m_R M').slots) (m_R M).slots = true)
    (kk : GX l G M Φ (k + (m_R M').cells) (n + (m_R M').slots) nx L (o.toList ++ st) h1 F) : GX l G M Φ k n pc L stk h F := by
  intro r hr p e s m args below meth c H locs A B hl hM hS
  have hg := g_dec B.2.2.2.2.2.2.2.2.2 hd hn
  unfold g_site at hs
  simp only [Bool.and_eq_true, decide_eq_true_eq] at hs
  obtain ⟨⟨⟨⟨⟨⟨⟨s1, s2⟩, s3⟩, s4⟩, s5⟩, s6⟩, s7⟩, ⟨⟨s8, s10⟩, s11⟩, s9⟩ := hs
  rw [s11] at s1
  have hts : ∀ w ∈ g_good, w.before args s = true := fun w hw => B.2.2.2.2.2.2.1 w (List.mem_filter.mp hw).1 (List.mem_filter.mp hw).2
  have ok : ∀ w ∈ lw_tbl, goodWord w = true → w.before args s = true := B.2.2.2.2.2.2.1
  have hws : g_ws M' = Cond.code (m_y M') (m_cc M') (m_nL M') none :: g_good := by unfold g_ws; rw [s11]
  have cb := callB_of (R := m_R M) (mc := (m_R M').cells) (ms := (m_R M').slots) (rm := m_R M') (ws := g_ws M') nA hts (g_goodIn (by rw [s11]; exact s1)) (ws' := g_good) hws rfl rfl (ok _ s2 rfl) (ok _ s9 rfl) ⟨s3, s4, s5⟩ ⟨Nat.le_of_ble_eq_true s6, Nat.le_of_ble_eq_true s7⟩
  have hrun := va_runI (As := As) (rest := st) (b := b) (H := H) (locs := locs) (cells := k) (slots := n) (below := below) (meth := meth) (e := e) (g := F0 m pc A stk) (cc := m_cc M) (nL := m_nL M) (index := idx) (Ts := g_good) (own := (m_y M).cls) ⟨B.1, B.2.1, B.2.2.1, B.2.2.2.2.2.1, hts⟩ hC ⟨cb, s10, ok _ s8 rfl⟩ ⟨g_blind, fun U hU hW => ⟨rfl, by rw [hU]; exact (B.2.2.2.2.2.2.2.1.warm hW (fun a ha hna => hS.2.1 a ha hna)), by rw [hU]; exact hM⟩⟩ rfl hlen hl.1 hstk (lv_room (Nat.le_of_ble_eq_true hst)) hg ⟨Nat.le_of_ble_eq_true hk, Nat.le_of_ble_eq_true hsl⟩
  intro T hT X
  obtain ⟨v, st₀, t, T', L1, h0, X', hL, e1, e2, ⟨hv, hM', hz, hq⟩, stp⟩ := hrun T hT X
  cases hv
  rw [h0] at hz hq
  have q := kk r hr p e s m args below meth c T'.heap (locs ++ L1) A B hl (by rw [e1]; exact hM') ⟨Nat.le_trans hS.1 (by rw [e1]; exact hz), fun q h1 h2 => by
      have hqb : q < g_b G := Nat.not_le.mp h2
      rw [e1, hq q hqb]; exact hS.2.1 q h1 h2, fun q hq => by
      rcases List.mem_append.mp hq with h | h
      · exact hS.2.2 q h
      · exact hL q h⟩
  rw [hn] at q
  obtain ⟨t2, a1, b1⟩ := q T' rfl X'
  exact ⟨t2, stp t2 a1, b1⟩
theorem X_callIN {M' : gMt} {idx nA b : Nat} {As : List Value} {o : Option Value} {h1 : gH} (hd : g_lk (m_code M) pc = some (.invokespecial idx, nx, x1, x2)) (hn : nx = pc + 3) (hs : g_siteN M M' (.invokespecial idx) nA = true) (hlen : As.length = nA) (hstk : stk = As.reverse ++ .ref b :: st) (hst : Nat.ble ((st.map fun v => v.category).sum) 8 = true) (hC : Ct l G M' (.ref b :: As) h o h1) (hk : Nat.ble (k + (m_R M').cells) (m_R M).cells = true) (hsl : Nat.ble (n + (m_R M').slots) (m_R M).slots = true)
    (kk : GX l G M Φ (k + (m_R M').cells) (n + (m_R M').slots) nx L (o.toList ++ st) h1 F) : GX l G M Φ k n pc L stk h F := by
  intro r hr p e s m args below meth c H locs A B hl hM hS
  have hg := g_dec B.2.2.2.2.2.2.2.2.2 hd hn
  unfold g_siteN at hs
  simp only [Bool.and_eq_true, decide_eq_true_eq] at hs
  obtain ⟨⟨⟨⟨⟨⟨⟨s1, s2⟩, s3⟩, s4⟩, s5⟩, s6⟩, s7⟩, ⟨⟨s8, s10⟩, s11⟩, s9⟩ := hs
  rw [s11] at s1
  have hts : ∀ w ∈ g_good, w.before args s = true := fun w hw => B.2.2.2.2.2.2.1 w (List.mem_filter.mp hw).1 (List.mem_filter.mp hw).2
  have ok : ∀ w ∈ lw_tbl, goodWord w = true → w.before args s = true := B.2.2.2.2.2.2.1
  have hws : g_ws M' = Cond.code (m_y M') (m_cc M') (m_nL M') none :: g_good := by unfold g_ws; rw [s11]
  have hNw : va_Nw (.methodLinkNest (m_y M).cls idx (m_y M') "LampRelay") s := B.2.2.2.2.2.2.2.1.2.1 _ (List.mem_filter.mpr ⟨s9, rfl⟩)
  have cb := va_cnB (R := m_R M) (mc := (m_R M').cells) (ms := (m_R M').slots) (rm := m_R M') (ws := g_ws M') nA hts (g_goodIn (by rw [s11]; exact s1)) (ws' := g_good) hws rfl rfl hNw (ok _ s2 rfl) ⟨s3, s4, s5⟩ ⟨Nat.le_of_ble_eq_true s6, Nat.le_of_ble_eq_true s7⟩
  have hrun := va_runIN (As := As) (rest := st) (b := b) (H := H) (locs := locs) (cells := k) (slots := n) (below := below) (meth := meth) (e := e) (g := F0 m pc A stk) (cc := m_cc M) (nL := m_nL M) (index := idx) (Ts := g_good) (own := (m_y M).cls) ⟨B.1, B.2.1, B.2.2.1, B.2.2.2.2.2.1, hts⟩ hC ⟨cb, s10, ok _ s8 rfl⟩ ⟨g_blind, fun U hU hW => ⟨rfl, by rw [hU]; exact (B.2.2.2.2.2.2.2.1.warm hW (fun a ha hna => hS.2.1 a ha hna)), by rw [hU]; exact hM⟩⟩ rfl hlen hl.1 hstk (lv_room (Nat.le_of_ble_eq_true hst)) hg ⟨Nat.le_of_ble_eq_true hk, Nat.le_of_ble_eq_true hsl⟩
  intro T hT X
  obtain ⟨v, st₀, t, T', L1, h0, X', hL, e1, e2, ⟨hv, hM', hz, hq⟩, stp⟩ := hrun T hT X
  cases hv
  rw [h0] at hz hq
  have q := kk r hr p e s m args below meth c T'.heap (locs ++ L1) A B hl (by rw [e1]; exact hM') ⟨Nat.le_trans hS.1 (by rw [e1]; exact hz), fun q h1 h2 => by
      have hqb : q < g_b G := Nat.not_le.mp h2
      rw [e1, hq q hqb]; exact hS.2.1 q h1 h2, fun q hq => by
      rcases List.mem_append.mp hq with h | h
      · exact hS.2.2 q h
      · exact hL q h⟩
  rw [hn] at q
  obtain ⟨t2, a1, b1⟩ := q T' rfl X'
  exact ⟨t2, stp t2 a1, b1⟩
theorem X_callS_IR {M' : gMt} {idx nA : Nat} {As : List Value} (hd : g_lk (m_code M) pc = some (.invokestatic idx, nx, x1, x2)) (hn : nx = pc + 3) (hs : g_site M M' (.invokestatic idx) nA = true) (hlen : As.length = nA) (hstk : stk = As.reverse ++ st) (hst : Nat.ble ((st.map fun v => v.category).sum) 8 = true) (hz1 : (m_R M').cells = 0) (hz2 : (m_R M').slots = 0) (hk : Nat.ble k (m_R M).cells = true) (hsl : Nat.ble n (m_R M).slots = true) {f : Option (Int32)} {K : Int32 → Option α} (hC : ∀ x, f = some x → Ct l G M' As h (some (.int x)) h) (kk : ∀ x, GX l G M Φ k n nx L (.int x :: st) h (K x)) : GX l G M Φ k n pc L stk h (f.bind K) := by
  exact X_bind fun x hx => X_callS hd hn hs hlen hstk hst (hC x hx) (by rw [hz1]; exact hk) (by rw [hz2]; exact hsl) (by rw [hz1, hz2]; exact kk x)
theorem X_callS_IW {M' : gMt} {idx nA : Nat} {As : List Value} (hd : g_lk (m_code M) pc = some (.invokestatic idx, nx, x1, x2)) (hn : nx = pc + 3) (hs : g_site M M' (.invokestatic idx) nA = true) (hlen : As.length = nA) (hstk : stk = As.reverse ++ st) (hst : Nat.ble ((st.map fun v => v.category).sum) 8 = true) (hz1 : (m_R M').cells = 0) (hz2 : (m_R M').slots = 0) (hk : Nat.ble k (m_R M).cells = true) (hsl : Nat.ble n (m_R M).slots = true) {f : Option (Int32 × gH)} {K : Int32 × gH → Option α} (hC : ∀ x h1, f = some (x, h1) → Ct l G M' As h (some (.int x)) h1) (kk : ∀ y, GX l G M Φ k n nx L (.int y.1 :: st) y.2 (K y)) : GX l G M Φ k n pc L stk h (f.bind K) := by
  exact X_bind fun x hx => X_callS hd hn hs hlen hstk hst (hC x.1 x.2 hx) (by rw [hz1]; exact hk) (by rw [hz2]; exact hsl) (by rw [hz1, hz2]; exact kk x)
theorem X_callS_LR {M' : gMt} {idx nA : Nat} {As : List Value} (hd : g_lk (m_code M) pc = some (.invokestatic idx, nx, x1, x2)) (hn : nx = pc + 3) (hs : g_site M M' (.invokestatic idx) nA = true) (hlen : As.length = nA) (hstk : stk = As.reverse ++ st) (hst : Nat.ble ((st.map fun v => v.category).sum) 8 = true) (hz1 : (m_R M').cells = 0) (hz2 : (m_R M').slots = 0) (hk : Nat.ble k (m_R M).cells = true) (hsl : Nat.ble n (m_R M).slots = true) {f : Option (Int64)} {K : Int64 → Option α} (hC : ∀ x, f = some x → Ct l G M' As h (some (.long x)) h) (kk : ∀ x, GX l G M Φ k n nx L (.long x :: st) h (K x)) : GX l G M Φ k n pc L stk h (f.bind K) := by
  exact X_bind fun x hx => X_callS hd hn hs hlen hstk hst (hC x hx) (by rw [hz1]; exact hk) (by rw [hz2]; exact hsl) (by rw [hz1, hz2]; exact kk x)
theorem X_callS_LW {M' : gMt} {idx nA : Nat} {As : List Value} (hd : g_lk (m_code M) pc = some (.invokestatic idx, nx, x1, x2)) (hn : nx = pc + 3) (hs : g_site M M' (.invokestatic idx) nA = true) (hlen : As.length = nA) (hstk : stk = As.reverse ++ st) (hst : Nat.ble ((st.map fun v => v.category).sum) 8 = true) (hz1 : (m_R M').cells = 0) (hz2 : (m_R M').slots = 0) (hk : Nat.ble k (m_R M).cells = true) (hsl : Nat.ble n (m_R M).slots = true) {f : Option (Int64 × gH)} {K : Int64 × gH → Option α} (hC : ∀ x h1, f = some (x, h1) → Ct l G M' As h (some (.long x)) h1) (kk : ∀ y, GX l G M Φ k n nx L (.long y.1 :: st) y.2 (K y)) : GX l G M Φ k n pc L stk h (f.bind K) := by
  exact X_bind fun x hx => X_callS hd hn hs hlen hstk hst (hC x.1 x.2 hx) (by rw [hz1]; exact hk) (by rw [hz2]; exact hsl) (by rw [hz1, hz2]; exact kk x)
theorem X_callS_AR {M' : gMt} {idx nA : Nat} {As : List Value} (hd : g_lk (m_code M) pc = some (.invokestatic idx, nx, x1, x2)) (hn : nx = pc + 3) (hs : g_site M M' (.invokestatic idx) nA = true) (hlen : As.length = nA) (hstk : stk = As.reverse ++ st) (hst : Nat.ble ((st.map fun v => v.category).sum) 8 = true) (hz1 : (m_R M').cells = 0) (hz2 : (m_R M').slots = 0) (hk : Nat.ble k (m_R M).cells = true) (hsl : Nat.ble n (m_R M).slots = true) {f : Option (Nat)} {K : Nat → Option α} (hC : ∀ x, f = some x → Ct l G M' As h (some (.ref x)) h) (kk : ∀ x, GX l G M Φ k n nx L (.ref x :: st) h (K x)) : GX l G M Φ k n pc L stk h (f.bind K) := by
  exact X_bind fun x hx => X_callS hd hn hs hlen hstk hst (hC x hx) (by rw [hz1]; exact hk) (by rw [hz2]; exact hsl) (by rw [hz1, hz2]; exact kk x)
theorem X_callS_AW {M' : gMt} {idx nA : Nat} {As : List Value} (hd : g_lk (m_code M) pc = some (.invokestatic idx, nx, x1, x2)) (hn : nx = pc + 3) (hs : g_site M M' (.invokestatic idx) nA = true) (hlen : As.length = nA) (hstk : stk = As.reverse ++ st) (hst : Nat.ble ((st.map fun v => v.category).sum) 8 = true) (hz1 : (m_R M').cells = 0) (hz2 : (m_R M').slots = 0) (hk : Nat.ble k (m_R M).cells = true) (hsl : Nat.ble n (m_R M).slots = true) {f : Option (Nat × gH)} {K : Nat × gH → Option α} (hC : ∀ x h1, f = some (x, h1) → Ct l G M' As h (some (.ref x)) h1) (kk : ∀ y, GX l G M Φ k n nx L (.ref y.1 :: st) y.2 (K y)) : GX l G M Φ k n pc L stk h (f.bind K) := by
  exact X_bind fun x hx => X_callS hd hn hs hlen hstk hst (hC x.1 x.2 hx) (by rw [hz1]; exact hk) (by rw [hz2]; exact hsl) (by rw [hz1, hz2]; exact kk x)
theorem X_callS_QR {M' : gMt} {idx nA : Nat} {As : List Value} (hd : g_lk (m_code M) pc = some (.invokestatic idx, nx, x1, x2)) (hn : nx = pc + 3) (hs : g_site M M' (.invokestatic idx) nA = true) (hlen : As.length = nA) (hstk : stk = As.reverse ++ st) (hst : Nat.ble ((st.map fun v => v.category).sum) 8 = true) (hz1 : (m_R M').cells = 0) (hz2 : (m_R M').slots = 0) (hk : Nat.ble k (m_R M).cells = true) (hsl : Nat.ble n (m_R M).slots = true) {f : Option (Option Nat)} {K : Option Nat → Option α} (hC : ∀ x, f = some x → Ct l G M' As h (some (va_rf x)) h) (kk : ∀ x, GX l G M Φ k n nx L (va_rf x :: st) h (K x)) : GX l G M Φ k n pc L stk h (f.bind K) := by
  exact X_bind fun x hx => X_callS hd hn hs hlen hstk hst (hC x hx) (by rw [hz1]; exact hk) (by rw [hz2]; exact hsl) (by rw [hz1, hz2]; exact kk x)
theorem X_callS_QW {M' : gMt} {idx nA : Nat} {As : List Value} (hd : g_lk (m_code M) pc = some (.invokestatic idx, nx, x1, x2)) (hn : nx = pc + 3) (hs : g_site M M' (.invokestatic idx) nA = true) (hlen : As.length = nA) (hstk : stk = As.reverse ++ st) (hst : Nat.ble ((st.map fun v => v.category).sum) 8 = true) (hz1 : (m_R M').cells = 0) (hz2 : (m_R M').slots = 0) (hk : Nat.ble k (m_R M).cells = true) (hsl : Nat.ble n (m_R M).slots = true) {f : Option (Option Nat × gH)} {K : Option Nat × gH → Option α} (hC : ∀ x h1, f = some (x, h1) → Ct l G M' As h (some (va_rf x)) h1) (kk : ∀ y, GX l G M Φ k n nx L (va_rf y.1 :: st) y.2 (K y)) : GX l G M Φ k n pc L stk h (f.bind K) := by
  exact X_bind fun x hx => X_callS hd hn hs hlen hstk hst (hC x.1 x.2 hx) (by rw [hz1]; exact hk) (by rw [hz2]; exact hsl) (by rw [hz1, hz2]; exact kk x)
theorem X_callS_DR {M' : gMt} {idx nA : Nat} {As : List Value} (hd : g_lk (m_code M) pc = some (.invokestatic idx, nx, x1, x2)) (hn : nx = pc + 3) (hs : g_site M M' (.invokestatic idx) nA = true) (hlen : As.length = nA) (hstk : stk = As.reverse ++ st) (hst : Nat.ble ((st.map fun v => v.category).sum) 8 = true) (hz1 : (m_R M').cells = 0) (hz2 : (m_R M').slots = 0) (hk : Nat.ble k (m_R M).cells = true) (hsl : Nat.ble n (m_R M).slots = true) {f : Option (UInt64)} {K : UInt64 → Option α} (hC : ∀ x, f = some x → Ct l G M' As h (some (.double x)) h) (kk : ∀ x, GX l G M Φ k n nx L (.double x :: st) h (K x)) : GX l G M Φ k n pc L stk h (f.bind K) := by
  exact X_bind fun x hx => X_callS hd hn hs hlen hstk hst (hC x hx) (by rw [hz1]; exact hk) (by rw [hz2]; exact hsl) (by rw [hz1, hz2]; exact kk x)
theorem X_callS_DW {M' : gMt} {idx nA : Nat} {As : List Value} (hd : g_lk (m_code M) pc = some (.invokestatic idx, nx, x1, x2)) (hn : nx = pc + 3) (hs : g_site M M' (.invokestatic idx) nA = true) (hlen : As.length = nA) (hstk : stk = As.reverse ++ st) (hst : Nat.ble ((st.map fun v => v.category).sum) 8 = true) (hz1 : (m_R M').cells = 0) (hz2 : (m_R M').slots = 0) (hk : Nat.ble k (m_R M).cells = true) (hsl : Nat.ble n (m_R M).slots = true) {f : Option (UInt64 × gH)} {K : UInt64 × gH → Option α} (hC : ∀ x h1, f = some (x, h1) → Ct l G M' As h (some (.double x)) h1) (kk : ∀ y, GX l G M Φ k n nx L (.double y.1 :: st) y.2 (K y)) : GX l G M Φ k n pc L stk h (f.bind K) := by
  exact X_bind fun x hx => X_callS hd hn hs hlen hstk hst (hC x.1 x.2 hx) (by rw [hz1]; exact hk) (by rw [hz2]; exact hsl) (by rw [hz1, hz2]; exact kk x)
theorem X_callS_UW {M' : gMt} {idx nA : Nat} {As : List Value} (hd : g_lk (m_code M) pc = some (.invokestatic idx, nx, x1, x2)) (hn : nx = pc + 3) (hs : g_site M M' (.invokestatic idx) nA = true) (hlen : As.length = nA) (hstk : stk = As.reverse ++ st) (hst : Nat.ble ((st.map fun v => v.category).sum) 8 = true) (hz1 : (m_R M').cells = 0) (hz2 : (m_R M').slots = 0) (hk : Nat.ble k (m_R M).cells = true) (hsl : Nat.ble n (m_R M).slots = true) {f : Option gH} {K : gH → Option α} (hC : ∀ h1, f = some h1 → Ct l G M' As h none h1) (kk : ∀ h1, GX l G M Φ k n nx L st h1 (K h1)) : GX l G M Φ k n pc L stk h (f.bind K) := by
  exact X_bind fun x hx => X_callS hd hn hs hlen hstk hst (hC x hx) (by rw [hz1]; exact hk) (by rw [hz2]; exact hsl) (by rw [hz1, hz2]; exact kk x)
theorem X_callS_IP {M' : gMt} {idx nA : Nat} {As : List Value} (hd : g_lk (m_code M) pc = some (.invokestatic idx, nx, x1, x2)) (hn : nx = pc + 3) (hs : g_site M M' (.invokestatic idx) nA = true) (hlen : As.length = nA) (hstk : stk = As.reverse ++ st) (hst : Nat.ble ((st.map fun v => v.category).sum) 8 = true) (hz1 : (m_R M').cells = 0) (hz2 : (m_R M').slots = 0) (hk : Nat.ble k (m_R M).cells = true) (hsl : Nat.ble n (m_R M).slots = true) {v : Int32} (hC : Ct l G M' As h (some (.int v)) h) (kk : GX l G M Φ k n nx L (.int v :: st) h F) : GX l G M Φ k n pc L stk h F :=
  X_callS hd hn hs hlen hstk hst hC (by rw [hz1]; exact hk) (by rw [hz2]; exact hsl) (by rw [hz1, hz2]; exact kk)
theorem X_callSN_IR {M' : gMt} {idx nA : Nat} {As : List Value} (hd : g_lk (m_code M) pc = some (.invokestatic idx, nx, x1, x2)) (hn : nx = pc + 3) (hs : g_siteN M M' (.invokestatic idx) nA = true) (hlen : As.length = nA) (hstk : stk = As.reverse ++ st) (hst : Nat.ble ((st.map fun v => v.category).sum) 8 = true) (hz1 : (m_R M').cells = 0) (hz2 : (m_R M').slots = 0) (hk : Nat.ble k (m_R M).cells = true) (hsl : Nat.ble n (m_R M).slots = true) {f : Option (Int32)} {K : Int32 → Option α} (hC : ∀ x, f = some x → Ct l G M' As h (some (.int x)) h) (kk : ∀ x, GX l G M Φ k n nx L (.int x :: st) h (K x)) : GX l G M Φ k n pc L stk h (f.bind K) := by
  exact X_bind fun x hx => X_callSN hd hn hs hlen hstk hst (hC x hx) (by rw [hz1]; exact hk) (by rw [hz2]; exact hsl) (by rw [hz1, hz2]; exact kk x)
theorem X_callSN_IW {M' : gMt} {idx nA : Nat} {As : List Value} (hd : g_lk (m_code M) pc = some (.invokestatic idx, nx, x1, x2)) (hn : nx = pc + 3) (hs : g_siteN M M' (.invokestatic idx) nA = true) (hlen : As.length = nA) (hstk : stk = As.reverse ++ st) (hst : Nat.ble ((st.map fun v => v.category).sum) 8 = true) (hz1 : (m_R M').cells = 0) (hz2 : (m_R M').slots = 0) (hk : Nat.ble k (m_R M).cells = true) (hsl : Nat.ble n (m_R M).slots = true) {f : Option (Int32 × gH)} {K : Int32 × gH → Option α} (hC : ∀ x h1, f = some (x, h1) → Ct l G M' As h (some (.int x)) h1) (kk : ∀ y, GX l G M Φ k n nx L (.int y.1 :: st) y.2 (K y)) : GX l G M Φ k n pc L stk h (f.bind K) := by
  exact X_bind fun x hx => X_callSN hd hn hs hlen hstk hst (hC x.1 x.2 hx) (by rw [hz1]; exact hk) (by rw [hz2]; exact hsl) (by rw [hz1, hz2]; exact kk x)
theorem X_callSN_LR {M' : gMt} {idx nA : Nat} {As : List Value} (hd : g_lk (m_code M) pc = some (.invokestatic idx, nx, x1, x2)) (hn : nx = pc + 3) (hs : g_siteN M M' (.invokestatic idx) nA = true) (hlen : As.length = nA) (hstk : stk = As.reverse ++ st) (hst : Nat.ble ((st.map fun v => v.category).sum) 8 = true) (hz1 : (m_R M').cells = 0) (hz2 : (m_R M').slots = 0) (hk : Nat.ble k (m_R M).cells = true) (hsl : Nat.ble n (m_R M).slots = true) {f : Option (Int64)} {K : Int64 → Option α} (hC : ∀ x, f = some x → Ct l G M' As h (some (.long x)) h) (kk : ∀ x, GX l G M Φ k n nx L (.long x :: st) h (K x)) : GX l G M Φ k n pc L stk h (f.bind K) := by
  exact X_bind fun x hx => X_callSN hd hn hs hlen hstk hst (hC x hx) (by rw [hz1]; exact hk) (by rw [hz2]; exact hsl) (by rw [hz1, hz2]; exact kk x)
theorem X_callSN_LW {M' : gMt} {idx nA : Nat} {As : List Value} (hd : g_lk (m_code M) pc = some (.invokestatic idx, nx, x1, x2)) (hn : nx = pc + 3) (hs : g_siteN M M' (.invokestatic idx) nA = true) (hlen : As.length = nA) (hstk : stk = As.reverse ++ st) (hst : Nat.ble ((st.map fun v => v.category).sum) 8 = true) (hz1 : (m_R M').cells = 0) (hz2 : (m_R M').slots = 0) (hk : Nat.ble k (m_R M).cells = true) (hsl : Nat.ble n (m_R M).slots = true) {f : Option (Int64 × gH)} {K : Int64 × gH → Option α} (hC : ∀ x h1, f = some (x, h1) → Ct l G M' As h (some (.long x)) h1) (kk : ∀ y, GX l G M Φ k n nx L (.long y.1 :: st) y.2 (K y)) : GX l G M Φ k n pc L stk h (f.bind K) := by
  exact X_bind fun x hx => X_callSN hd hn hs hlen hstk hst (hC x.1 x.2 hx) (by rw [hz1]; exact hk) (by rw [hz2]; exact hsl) (by rw [hz1, hz2]; exact kk x)
theorem X_callSN_AR {M' : gMt} {idx nA : Nat} {As : List Value} (hd : g_lk (m_code M) pc = some (.invokestatic idx, nx, x1, x2)) (hn : nx = pc + 3) (hs : g_siteN M M' (.invokestatic idx) nA = true) (hlen : As.length = nA) (hstk : stk = As.reverse ++ st) (hst : Nat.ble ((st.map fun v => v.category).sum) 8 = true) (hz1 : (m_R M').cells = 0) (hz2 : (m_R M').slots = 0) (hk : Nat.ble k (m_R M).cells = true) (hsl : Nat.ble n (m_R M).slots = true) {f : Option (Nat)} {K : Nat → Option α} (hC : ∀ x, f = some x → Ct l G M' As h (some (.ref x)) h) (kk : ∀ x, GX l G M Φ k n nx L (.ref x :: st) h (K x)) : GX l G M Φ k n pc L stk h (f.bind K) := by
  exact X_bind fun x hx => X_callSN hd hn hs hlen hstk hst (hC x hx) (by rw [hz1]; exact hk) (by rw [hz2]; exact hsl) (by rw [hz1, hz2]; exact kk x)
theorem X_callSN_AW {M' : gMt} {idx nA : Nat} {As : List Value} (hd : g_lk (m_code M) pc = some (.invokestatic idx, nx, x1, x2)) (hn : nx = pc + 3) (hs : g_siteN M M' (.invokestatic idx) nA = true) (hlen : As.length = nA) (hstk : stk = As.reverse ++ st) (hst : Nat.ble ((st.map fun v => v.category).sum) 8 = true) (hz1 : (m_R M').cells = 0) (hz2 : (m_R M').slots = 0) (hk : Nat.ble k (m_R M).cells = true) (hsl : Nat.ble n (m_R M).slots = true) {f : Option (Nat × gH)} {K : Nat × gH → Option α} (hC : ∀ x h1, f = some (x, h1) → Ct l G M' As h (some (.ref x)) h1) (kk : ∀ y, GX l G M Φ k n nx L (.ref y.1 :: st) y.2 (K y)) : GX l G M Φ k n pc L stk h (f.bind K) := by
  exact X_bind fun x hx => X_callSN hd hn hs hlen hstk hst (hC x.1 x.2 hx) (by rw [hz1]; exact hk) (by rw [hz2]; exact hsl) (by rw [hz1, hz2]; exact kk x)
theorem X_callSN_QR {M' : gMt} {idx nA : Nat} {As : List Value} (hd : g_lk (m_code M) pc = some (.invokestatic idx, nx, x1, x2)) (hn : nx = pc + 3) (hs : g_siteN M M' (.invokestatic idx) nA = true) (hlen : As.length = nA) (hstk : stk = As.reverse ++ st) (hst : Nat.ble ((st.map fun v => v.category).sum) 8 = true) (hz1 : (m_R M').cells = 0) (hz2 : (m_R M').slots = 0) (hk : Nat.ble k (m_R M).cells = true) (hsl : Nat.ble n (m_R M).slots = true) {f : Option (Option Nat)} {K : Option Nat → Option α} (hC : ∀ x, f = some x → Ct l G M' As h (some (va_rf x)) h) (kk : ∀ x, GX l G M Φ k n nx L (va_rf x :: st) h (K x)) : GX l G M Φ k n pc L stk h (f.bind K) := by
  exact X_bind fun x hx => X_callSN hd hn hs hlen hstk hst (hC x hx) (by rw [hz1]; exact hk) (by rw [hz2]; exact hsl) (by rw [hz1, hz2]; exact kk x)
theorem X_callSN_QW {M' : gMt} {idx nA : Nat} {As : List Value} (hd : g_lk (m_code M) pc = some (.invokestatic idx, nx, x1, x2)) (hn : nx = pc + 3) (hs : g_siteN M M' (.invokestatic idx) nA = true) (hlen : As.length = nA) (hstk : stk = As.reverse ++ st) (hst : Nat.ble ((st.map fun v => v.category).sum) 8 = true) (hz1 : (m_R M').cells = 0) (hz2 : (m_R M').slots = 0) (hk : Nat.ble k (m_R M).cells = true) (hsl : Nat.ble n (m_R M).slots = true) {f : Option (Option Nat × gH)} {K : Option Nat × gH → Option α} (hC : ∀ x h1, f = some (x, h1) → Ct l G M' As h (some (va_rf x)) h1) (kk : ∀ y, GX l G M Φ k n nx L (va_rf y.1 :: st) y.2 (K y)) : GX l G M Φ k n pc L stk h (f.bind K) := by
  exact X_bind fun x hx => X_callSN hd hn hs hlen hstk hst (hC x.1 x.2 hx) (by rw [hz1]; exact hk) (by rw [hz2]; exact hsl) (by rw [hz1, hz2]; exact kk x)
theorem X_callSN_DR {M' : gMt} {idx nA : Nat} {As : List Value} (hd : g_lk (m_code M) pc = some (.invokestatic idx, nx, x1, x2)) (hn : nx = pc + 3) (hs : g_siteN M M' (.invokestatic idx) nA = true) (hlen : As.length = nA) (hstk : stk = As.reverse ++ st) (hst : Nat.ble ((st.map fun v => v.category).sum) 8 = true) (hz1 : (m_R M').cells = 0) (hz2 : (m_R M').slots = 0) (hk : Nat.ble k (m_R M).cells = true) (hsl : Nat.ble n (m_R M).slots = true) {f : Option (UInt64)} {K : UInt64 → Option α} (hC : ∀ x, f = some x → Ct l G M' As h (some (.double x)) h) (kk : ∀ x, GX l G M Φ k n nx L (.double x :: st) h (K x)) : GX l G M Φ k n pc L stk h (f.bind K) := by
  exact X_bind fun x hx => X_callSN hd hn hs hlen hstk hst (hC x hx) (by rw [hz1]; exact hk) (by rw [hz2]; exact hsl) (by rw [hz1, hz2]; exact kk x)
theorem X_callSN_DW {M' : gMt} {idx nA : Nat} {As : List Value} (hd : g_lk (m_code M) pc = some (.invokestatic idx, nx, x1, x2)) (hn : nx = pc + 3) (hs : g_siteN M M' (.invokestatic idx) nA = true) (hlen : As.length = nA) (hstk : stk = As.reverse ++ st) (hst : Nat.ble ((st.map fun v => v.category).sum) 8 = true) (hz1 : (m_R M').cells = 0) (hz2 : (m_R M').slots = 0) (hk : Nat.ble k (m_R M).cells = true) (hsl : Nat.ble n (m_R M).slots = true) {f : Option (UInt64 × gH)} {K : UInt64 × gH → Option α} (hC : ∀ x h1, f = some (x, h1) → Ct l G M' As h (some (.double x)) h1) (kk : ∀ y, GX l G M Φ k n nx L (.double y.1 :: st) y.2 (K y)) : GX l G M Φ k n pc L stk h (f.bind K) := by
  exact X_bind fun x hx => X_callSN hd hn hs hlen hstk hst (hC x.1 x.2 hx) (by rw [hz1]; exact hk) (by rw [hz2]; exact hsl) (by rw [hz1, hz2]; exact kk x)
theorem X_callSN_UW {M' : gMt} {idx nA : Nat} {As : List Value} (hd : g_lk (m_code M) pc = some (.invokestatic idx, nx, x1, x2)) (hn : nx = pc + 3) (hs : g_siteN M M' (.invokestatic idx) nA = true) (hlen : As.length = nA) (hstk : stk = As.reverse ++ st) (hst : Nat.ble ((st.map fun v => v.category).sum) 8 = true) (hz1 : (m_R M').cells = 0) (hz2 : (m_R M').slots = 0) (hk : Nat.ble k (m_R M).cells = true) (hsl : Nat.ble n (m_R M).slots = true) {f : Option gH} {K : gH → Option α} (hC : ∀ h1, f = some h1 → Ct l G M' As h none h1) (kk : ∀ h1, GX l G M Φ k n nx L st h1 (K h1)) : GX l G M Φ k n pc L stk h (f.bind K) := by
  exact X_bind fun x hx => X_callSN hd hn hs hlen hstk hst (hC x hx) (by rw [hz1]; exact hk) (by rw [hz2]; exact hsl) (by rw [hz1, hz2]; exact kk x)
theorem X_callSN_IP {M' : gMt} {idx nA : Nat} {As : List Value} (hd : g_lk (m_code M) pc = some (.invokestatic idx, nx, x1, x2)) (hn : nx = pc + 3) (hs : g_siteN M M' (.invokestatic idx) nA = true) (hlen : As.length = nA) (hstk : stk = As.reverse ++ st) (hst : Nat.ble ((st.map fun v => v.category).sum) 8 = true) (hz1 : (m_R M').cells = 0) (hz2 : (m_R M').slots = 0) (hk : Nat.ble k (m_R M).cells = true) (hsl : Nat.ble n (m_R M).slots = true) {v : Int32} (hC : Ct l G M' As h (some (.int v)) h) (kk : GX l G M Φ k n nx L (.int v :: st) h F) : GX l G M Φ k n pc L stk h F :=
  X_callSN hd hn hs hlen hstk hst hC (by rw [hz1]; exact hk) (by rw [hz2]; exact hsl) (by rw [hz1, hz2]; exact kk)
theorem X_callV_IR {M' : gMt} {idx nA b ci : Nat} {As : List Value} (hd : g_lk (m_code M) pc = some (.invokevirtual idx, nx, x1, x2)) (hn : nx = pc + 3) (hs : g_site M M' (.invokevirtual idx) nA = true) (hlen : As.length = nA) (hstk : stk = As.reverse ++ .ref b :: st) (hst : Nat.ble ((st.map fun v => v.category).sum) 8 = true) (hrc : g_cn ci = (m_y M').cls) (hz1 : (m_R M').cells = 0) (hz2 : (m_R M').slots = 0) (hk : Nat.ble k (m_R M).cells = true) (hsl : Nat.ble n (m_R M).slots = true) {f : Option (Int32)} {K : Int32 → Option α} (hC : ∀ x, f = some x → Ct l G M' (.ref b :: As) h (some (.int x)) h) (kk : ∀ x, GX l G M Φ k n nx L (.int x :: st) h (K x)) : GX l G M Φ k n pc L stk h (bif g_is h b ci then f.bind K else none) := by
  cases hb : g_is h b ci with
  | false => exact X_none
  | true =>
  exact X_bind fun x hx => X_callV hd hn hs hlen hstk hst ⟨hb, hrc⟩ (hC x hx) (by rw [hz1]; exact hk) (by rw [hz2]; exact hsl) (by rw [hz1, hz2]; exact kk x)
theorem X_callV_IW {M' : gMt} {idx nA b ci : Nat} {As : List Value} (hd : g_lk (m_code M) pc = some (.invokevirtual idx, nx, x1, x2)) (hn : nx = pc + 3) (hs : g_site M M' (.invokevirtual idx) nA = true) (hlen : As.length = nA) (hstk : stk = As.reverse ++ .ref b :: st) (hst : Nat.ble ((st.map fun v => v.category).sum) 8 = true) (hrc : g_cn ci = (m_y M').cls) (hz1 : (m_R M').cells = 0) (hz2 : (m_R M').slots = 0) (hk : Nat.ble k (m_R M).cells = true) (hsl : Nat.ble n (m_R M).slots = true) {f : Option (Int32 × gH)} {K : Int32 × gH → Option α} (hC : ∀ x h1, f = some (x, h1) → Ct l G M' (.ref b :: As) h (some (.int x)) h1) (kk : ∀ y, GX l G M Φ k n nx L (.int y.1 :: st) y.2 (K y)) : GX l G M Φ k n pc L stk h (bif g_is h b ci then f.bind K else none) := by
  cases hb : g_is h b ci with
  | false => exact X_none
  | true =>
  exact X_bind fun x hx => X_callV hd hn hs hlen hstk hst ⟨hb, hrc⟩ (hC x.1 x.2 hx) (by rw [hz1]; exact hk) (by rw [hz2]; exact hsl) (by rw [hz1, hz2]; exact kk x)
theorem X_callV_LR {M' : gMt} {idx nA b ci : Nat} {As : List Value} (hd : g_lk (m_code M) pc = some (.invokevirtual idx, nx, x1, x2)) (hn : nx = pc + 3) (hs : g_site M M' (.invokevirtual idx) nA = true) (hlen : As.length = nA) (hstk : stk = As.reverse ++ .ref b :: st) (hst : Nat.ble ((st.map fun v => v.category).sum) 8 = true) (hrc : g_cn ci = (m_y M').cls) (hz1 : (m_R M').cells = 0) (hz2 : (m_R M').slots = 0) (hk : Nat.ble k (m_R M).cells = true) (hsl : Nat.ble n (m_R M).slots = true) {f : Option (Int64)} {K : Int64 → Option α} (hC : ∀ x, f = some x → Ct l G M' (.ref b :: As) h (some (.long x)) h) (kk : ∀ x, GX l G M Φ k n nx L (.long x :: st) h (K x)) : GX l G M Φ k n pc L stk h (bif g_is h b ci then f.bind K else none) := by
  cases hb : g_is h b ci with
  | false => exact X_none
  | true =>
  exact X_bind fun x hx => X_callV hd hn hs hlen hstk hst ⟨hb, hrc⟩ (hC x hx) (by rw [hz1]; exact hk) (by rw [hz2]; exact hsl) (by rw [hz1, hz2]; exact kk x)
theorem X_callV_LW {M' : gMt} {idx nA b ci : Nat} {As : List Value} (hd : g_lk (m_code M) pc = some (.invokevirtual idx, nx, x1, x2)) (hn : nx = pc + 3) (hs : g_site M M' (.invokevirtual idx) nA = true) (hlen : As.length = nA) (hstk : stk = As.reverse ++ .ref b :: st) (hst : Nat.ble ((st.map fun v => v.category).sum) 8 = true) (hrc : g_cn ci = (m_y M').cls) (hz1 : (m_R M').cells = 0) (hz2 : (m_R M').slots = 0) (hk : Nat.ble k (m_R M).cells = true) (hsl : Nat.ble n (m_R M).slots = true) {f : Option (Int64 × gH)} {K : Int64 × gH → Option α} (hC : ∀ x h1, f = some (x, h1) → Ct l G M' (.ref b :: As) h (some (.long x)) h1) (kk : ∀ y, GX l G M Φ k n nx L (.long y.1 :: st) y.2 (K y)) : GX l G M Φ k n pc L stk h (bif g_is h b ci then f.bind K else none) := by
  cases hb : g_is h b ci with
  | false => exact X_none
  | true =>
  exact X_bind fun x hx => X_callV hd hn hs hlen hstk hst ⟨hb, hrc⟩ (hC x.1 x.2 hx) (by rw [hz1]; exact hk) (by rw [hz2]; exact hsl) (by rw [hz1, hz2]; exact kk x)
theorem X_callV_AR {M' : gMt} {idx nA b ci : Nat} {As : List Value} (hd : g_lk (m_code M) pc = some (.invokevirtual idx, nx, x1, x2)) (hn : nx = pc + 3) (hs : g_site M M' (.invokevirtual idx) nA = true) (hlen : As.length = nA) (hstk : stk = As.reverse ++ .ref b :: st) (hst : Nat.ble ((st.map fun v => v.category).sum) 8 = true) (hrc : g_cn ci = (m_y M').cls) (hz1 : (m_R M').cells = 0) (hz2 : (m_R M').slots = 0) (hk : Nat.ble k (m_R M).cells = true) (hsl : Nat.ble n (m_R M).slots = true) {f : Option (Nat)} {K : Nat → Option α} (hC : ∀ x, f = some x → Ct l G M' (.ref b :: As) h (some (.ref x)) h) (kk : ∀ x, GX l G M Φ k n nx L (.ref x :: st) h (K x)) : GX l G M Φ k n pc L stk h (bif g_is h b ci then f.bind K else none) := by
  cases hb : g_is h b ci with
  | false => exact X_none
  | true =>
  exact X_bind fun x hx => X_callV hd hn hs hlen hstk hst ⟨hb, hrc⟩ (hC x hx) (by rw [hz1]; exact hk) (by rw [hz2]; exact hsl) (by rw [hz1, hz2]; exact kk x)
theorem X_callV_AW {M' : gMt} {idx nA b ci : Nat} {As : List Value} (hd : g_lk (m_code M) pc = some (.invokevirtual idx, nx, x1, x2)) (hn : nx = pc + 3) (hs : g_site M M' (.invokevirtual idx) nA = true) (hlen : As.length = nA) (hstk : stk = As.reverse ++ .ref b :: st) (hst : Nat.ble ((st.map fun v => v.category).sum) 8 = true) (hrc : g_cn ci = (m_y M').cls) (hz1 : (m_R M').cells = 0) (hz2 : (m_R M').slots = 0) (hk : Nat.ble k (m_R M).cells = true) (hsl : Nat.ble n (m_R M).slots = true) {f : Option (Nat × gH)} {K : Nat × gH → Option α} (hC : ∀ x h1, f = some (x, h1) → Ct l G M' (.ref b :: As) h (some (.ref x)) h1) (kk : ∀ y, GX l G M Φ k n nx L (.ref y.1 :: st) y.2 (K y)) : GX l G M Φ k n pc L stk h (bif g_is h b ci then f.bind K else none) := by
  cases hb : g_is h b ci with
  | false => exact X_none
  | true =>
  exact X_bind fun x hx => X_callV hd hn hs hlen hstk hst ⟨hb, hrc⟩ (hC x.1 x.2 hx) (by rw [hz1]; exact hk) (by rw [hz2]; exact hsl) (by rw [hz1, hz2]; exact kk x)
theorem X_callV_QR {M' : gMt} {idx nA b ci : Nat} {As : List Value} (hd : g_lk (m_code M) pc = some (.invokevirtual idx, nx, x1, x2)) (hn : nx = pc + 3) (hs : g_site M M' (.invokevirtual idx) nA = true) (hlen : As.length = nA) (hstk : stk = As.reverse ++ .ref b :: st) (hst : Nat.ble ((st.map fun v => v.category).sum) 8 = true) (hrc : g_cn ci = (m_y M').cls) (hz1 : (m_R M').cells = 0) (hz2 : (m_R M').slots = 0) (hk : Nat.ble k (m_R M).cells = true) (hsl : Nat.ble n (m_R M).slots = true) {f : Option (Option Nat)} {K : Option Nat → Option α} (hC : ∀ x, f = some x → Ct l G M' (.ref b :: As) h (some (va_rf x)) h) (kk : ∀ x, GX l G M Φ k n nx L (va_rf x :: st) h (K x)) : GX l G M Φ k n pc L stk h (bif g_is h b ci then f.bind K else none) := by
  cases hb : g_is h b ci with
  | false => exact X_none
  | true =>
  exact X_bind fun x hx => X_callV hd hn hs hlen hstk hst ⟨hb, hrc⟩ (hC x hx) (by rw [hz1]; exact hk) (by rw [hz2]; exact hsl) (by rw [hz1, hz2]; exact kk x)
theorem X_callV_QW {M' : gMt} {idx nA b ci : Nat} {As : List Value} (hd : g_lk (m_code M) pc = some (.invokevirtual idx, nx, x1, x2)) (hn : nx = pc + 3) (hs : g_site M M' (.invokevirtual idx) nA = true) (hlen : As.length = nA) (hstk : stk = As.reverse ++ .ref b :: st) (hst : Nat.ble ((st.map fun v => v.category).sum) 8 = true) (hrc : g_cn ci = (m_y M').cls) (hz1 : (m_R M').cells = 0) (hz2 : (m_R M').slots = 0) (hk : Nat.ble k (m_R M).cells = true) (hsl : Nat.ble n (m_R M).slots = true) {f : Option (Option Nat × gH)} {K : Option Nat × gH → Option α} (hC : ∀ x h1, f = some (x, h1) → Ct l G M' (.ref b :: As) h (some (va_rf x)) h1) (kk : ∀ y, GX l G M Φ k n nx L (va_rf y.1 :: st) y.2 (K y)) : GX l G M Φ k n pc L stk h (bif g_is h b ci then f.bind K else none) := by
  cases hb : g_is h b ci with
  | false => exact X_none
  | true =>
  exact X_bind fun x hx => X_callV hd hn hs hlen hstk hst ⟨hb, hrc⟩ (hC x.1 x.2 hx) (by rw [hz1]; exact hk) (by rw [hz2]; exact hsl) (by rw [hz1, hz2]; exact kk x)
theorem X_callV_DR {M' : gMt} {idx nA b ci : Nat} {As : List Value} (hd : g_lk (m_code M) pc = some (.invokevirtual idx, nx, x1, x2)) (hn : nx = pc + 3) (hs : g_site M M' (.invokevirtual idx) nA = true) (hlen : As.length = nA) (hstk : stk = As.reverse ++ .ref b :: st) (hst : Nat.ble ((st.map fun v => v.category).sum) 8 = true) (hrc : g_cn ci = (m_y M').cls) (hz1 : (m_R M').cells = 0) (hz2 : (m_R M').slots = 0) (hk : Nat.ble k (m_R M).cells = true) (hsl : Nat.ble n (m_R M).slots = true) {f : Option (UInt64)} {K : UInt64 → Option α} (hC : ∀ x, f = some x → Ct l G M' (.ref b :: As) h (some (.double x)) h) (kk : ∀ x, GX l G M Φ k n nx L (.double x :: st) h (K x)) : GX l G M Φ k n pc L stk h (bif g_is h b ci then f.bind K else none) := by
  cases hb : g_is h b ci with
  | false => exact X_none
  | true =>
  exact X_bind fun x hx => X_callV hd hn hs hlen hstk hst ⟨hb, hrc⟩ (hC x hx) (by rw [hz1]; exact hk) (by rw [hz2]; exact hsl) (by rw [hz1, hz2]; exact kk x)
theorem X_callV_DW {M' : gMt} {idx nA b ci : Nat} {As : List Value} (hd : g_lk (m_code M) pc = some (.invokevirtual idx, nx, x1, x2)) (hn : nx = pc + 3) (hs : g_site M M' (.invokevirtual idx) nA = true) (hlen : As.length = nA) (hstk : stk = As.reverse ++ .ref b :: st) (hst : Nat.ble ((st.map fun v => v.category).sum) 8 = true) (hrc : g_cn ci = (m_y M').cls) (hz1 : (m_R M').cells = 0) (hz2 : (m_R M').slots = 0) (hk : Nat.ble k (m_R M).cells = true) (hsl : Nat.ble n (m_R M).slots = true) {f : Option (UInt64 × gH)} {K : UInt64 × gH → Option α} (hC : ∀ x h1, f = some (x, h1) → Ct l G M' (.ref b :: As) h (some (.double x)) h1) (kk : ∀ y, GX l G M Φ k n nx L (.double y.1 :: st) y.2 (K y)) : GX l G M Φ k n pc L stk h (bif g_is h b ci then f.bind K else none) := by
  cases hb : g_is h b ci with
  | false => exact X_none
  | true =>
  exact X_bind fun x hx => X_callV hd hn hs hlen hstk hst ⟨hb, hrc⟩ (hC x.1 x.2 hx) (by rw [hz1]; exact hk) (by rw [hz2]; exact hsl) (by rw [hz1, hz2]; exact kk x)
theorem X_callV_UW {M' : gMt} {idx nA b ci : Nat} {As : List Value} (hd : g_lk (m_code M) pc = some (.invokevirtual idx, nx, x1, x2)) (hn : nx = pc + 3) (hs : g_site M M' (.invokevirtual idx) nA = true) (hlen : As.length = nA) (hstk : stk = As.reverse ++ .ref b :: st) (hst : Nat.ble ((st.map fun v => v.category).sum) 8 = true) (hrc : g_cn ci = (m_y M').cls) (hz1 : (m_R M').cells = 0) (hz2 : (m_R M').slots = 0) (hk : Nat.ble k (m_R M).cells = true) (hsl : Nat.ble n (m_R M).slots = true) {f : Option gH} {K : gH → Option α} (hC : ∀ h1, f = some h1 → Ct l G M' (.ref b :: As) h none h1) (kk : ∀ h1, GX l G M Φ k n nx L st h1 (K h1)) : GX l G M Φ k n pc L stk h (bif g_is h b ci then f.bind K else none) := by
  cases hb : g_is h b ci with
  | false => exact X_none
  | true =>
  exact X_bind fun x hx => X_callV hd hn hs hlen hstk hst ⟨hb, hrc⟩ (hC x hx) (by rw [hz1]; exact hk) (by rw [hz2]; exact hsl) (by rw [hz1, hz2]; exact kk x)
/-- the end of a body that only returns -/
def g_phi (G : gG) (ρ : α → Option Value × gH) (mc ms : Nat) : α → Method → Code → State → Array Value → List Frame → State → Prop := fun r _ _ s args below => MQ below (g_Qc G (ρ r).1 (ρ r).2) args s mc ms (g_A G)
theorem X_iret {ρ : α → Option Value × gH} {mc ms : Nat} {r0 : α} {v : Int32} (hd : g_lk (m_code M) pc = some (.ireturn, nx, x1, x2)) (hn : nx = pc + 1) {ty : FieldType} (hty : m_ret M = some ty) (hnr : narrow ty (.int v) = .int v) (hρ : ρ r0 = (some (.int v), h)) (hk : Nat.ble k mc = true) (hs : Nat.ble n ms = true) : GX l G M (g_phi G ρ mc ms) k n pc L [.int v] h (some r0) := by
  intro r hr p e s m args below meth c H locs A B hl hM hS
  cases hr
  have hg := g_dec B.2.2.2.2.2.2.2.2.2 hd hn
  refine W.widen (Nat.le_of_ble_eq_true hk) (Nat.le_of_ble_eq_true hs) ?_
  unfold g_phi
  rw [hρ]
  exact W.zret B.1 B.2.1 (by rw [B.2.2.2.1]; exact hty) hnr (fun t ht hW => ⟨rfl, by rw [ht]; exact hM, by rw [ht]; exact hS.1, fun q hq => by
    rw [ht]
    exact hS.2.1 q (Nat.lt_of_lt_of_le hq B.2.2.2.2.2.2.2.2.1.2.1) (Nat.not_le.mpr hq)⟩) hS.2.2 hg B.2.2.2.2.1
theorem X_lret {ρ : α → Option Value × gH} {mc ms : Nat} {r0 : α} {v : Int64} (hd : g_lk (m_code M) pc = some (.lreturn, nx, x1, x2)) (hn : nx = pc + 1) (hty : m_ret M = some .long) (hρ : ρ r0 = (some (.long v), h)) (hk : Nat.ble k mc = true) (hs : Nat.ble n ms = true) : GX l G M (g_phi G ρ mc ms) k n pc L [.long v] h (some r0) := by
  intro r hr p e s m args below meth c H locs A B hl hM hS
  cases hr
  have hg := g_dec B.2.2.2.2.2.2.2.2.2 hd hn
  refine W.widen (Nat.le_of_ble_eq_true hk) (Nat.le_of_ble_eq_true hs) ?_
  unfold g_phi
  rw [hρ]
  exact W.lret B.1 B.2.1 (by rw [B.2.2.2.1]; exact hty) (fun t ht hW => ⟨rfl, by rw [ht]; exact hM, by rw [ht]; exact hS.1, fun q hq => by
    rw [ht]
    exact hS.2.1 q (Nat.lt_of_lt_of_le hq B.2.2.2.2.2.2.2.2.1.2.1) (Nat.not_le.mpr hq)⟩) hS.2.2 hg B.2.2.2.2.1
theorem X_dret {ρ : α → Option Value × gH} {mc ms : Nat} {r0 : α} {v : UInt64} (hd : g_lk (m_code M) pc = some (.dreturn, nx, x1, x2)) (hn : nx = pc + 1) (hty : m_ret M = some .double) (hρ : ρ r0 = (some (.double v), h)) (hk : Nat.ble k mc = true) (hs : Nat.ble n ms = true) : GX l G M (g_phi G ρ mc ms) k n pc L [.double v] h (some r0) := by
  intro r hr p e s m args below meth c H locs A B hl hM hS
  cases hr
  have hg := g_dec B.2.2.2.2.2.2.2.2.2 hd hn
  refine W.widen (Nat.le_of_ble_eq_true hk) (Nat.le_of_ble_eq_true hs) ?_
  unfold g_phi
  rw [hρ]
  exact W.dret B.1 B.2.1 (by rw [B.2.2.2.1]; exact hty) (fun t ht hW => ⟨rfl, by rw [ht]; exact hM, by rw [ht]; exact hS.1, fun q hq => by
    rw [ht]
    exact hS.2.1 q (Nat.lt_of_lt_of_le hq B.2.2.2.2.2.2.2.2.1.2.1) (Nat.not_le.mpr hq)⟩) hS.2.2 hg B.2.2.2.2.1
theorem X_vret {ρ : α → Option Value × gH} {mc ms : Nat} {r0 : α} (hd : g_lk (m_code M) pc = some (.return_, nx, x1, x2)) (hn : nx = pc + 1) (hty : m_ret M = none) (hρ : ρ r0 = (none, h)) (hk : Nat.ble k mc = true) (hs : Nat.ble n ms = true) : GX l G M (g_phi G ρ mc ms) k n pc L [] h (some r0) := by
  intro r hr p e s m args below meth c H locs A B hl hM hS
  cases hr
  have hg := g_dec B.2.2.2.2.2.2.2.2.2 hd hn
  refine W.widen (Nat.le_of_ble_eq_true hk) (Nat.le_of_ble_eq_true hs) ?_
  unfold g_phi
  rw [hρ]
  exact W.vret B.1 B.2.1 (by rw [B.2.2.2.1]; exact hty) (fun t ht hW => ⟨rfl, by rw [ht]; exact hM, by rw [ht]; exact hS.1, fun q hq => by
    rw [ht]
    exact hS.2.1 q (Nat.lt_of_lt_of_le hq B.2.2.2.2.2.2.2.2.1.2.1) (Nat.not_le.mpr hq)⟩) hS.2.2 hg B.2.2.2.2.1
theorem X_aret {ρ : α → Option Value × gH} {mc ms : Nat} {r0 : α} {v : Option Nat} {nm : String} (hd : g_lk (m_code M) pc = some (.areturn, nx, x1, x2)) (hn : nx = pc + 1) (hty : m_ret M = some (.object nm)) (hρ : ρ r0 = (some (va_rf v), h)) (hk : Nat.ble k mc = true) (hs : Nat.ble n ms = true) : GX l G M (g_phi G ρ mc ms) k n pc L [va_rf v] h (some r0) := by
  intro r hr p e s m args below meth c H locs A B hl hM hS
  cases hr
  have hg := g_dec B.2.2.2.2.2.2.2.2.2 hd hn
  refine W.widen (Nat.le_of_ble_eq_true hk) (Nat.le_of_ble_eq_true hs) ?_
  unfold g_phi
  rw [hρ]
  refine W.aret B.1 B.2.1 (by rw [B.2.2.2.1]; exact hty) (Or.inl ⟨_, rfl⟩) (by cases v with | none => exact Or.inl rfl | some a => exact Or.inr ⟨a, rfl⟩) (fun t ht hW => ⟨rfl, by rw [ht]; exact hM, by rw [ht]; exact hS.1, fun q hq => by
    rw [ht]
    exact hS.2.1 q (Nat.lt_of_lt_of_le hq B.2.2.2.2.2.2.2.2.1.2.1) (Nat.not_le.mpr hq)⟩) hS.2.2 hg B.2.2.2.2.1
theorem X_zret {ρ : α → Option Value × gH} {mc ms : Nat} {v : Int32} {K : Int32 → Option α} (hd : g_lk (m_code M) pc = some (.ireturn, nx, x1, x2)) (hn : nx = pc + 1) (hty : m_ret M = some .boolean) (hK : ∃ r0, K v = some r0 ∧ ρ r0 = (some (.int v), h)) (hk : Nat.ble k mc = true) (hs : Nat.ble n ms = true) : GX l G M (g_phi G ρ mc ms) k n pc L [.int v] h ((g_z v).bind K) := by
  unfold g_z
  obtain ⟨r0, h1, h2⟩ := hK
  by_cases hv : v = 0 ∨ v = 1
  · rw [if_pos hv]
    show GX l G M _ k n pc L _ h (K v)
    rw [h1]
    refine X_iret hd hn hty ?_ h2 hk hs
    rcases hv with rfl | rfl <;> rfl
  · rw [if_neg hv]
    exact X_none
end GXC
/-- the locals with which a body begins -/
def g_en : List Value → Nat → List (Option Value)
  | [], n => List.replicate n none
  | v :: vs, n => bif Nat.beq v.category 2 then some v :: none :: g_en vs (n - 2) else some v :: g_en vs (n - 1)
theorem g_en_at : ∀ (vs : List Value) (n i j : Nat) (v : Value), (g_en vs n)[j]? = some (some v) → (i + j, v) ∈ lv_args i vs
  | [], n, i, j, v, h => by
    rw [g_en, List.getElem?_replicate] at h
    split at h <;> cases h
  | w :: vs, n, i, j, v, h => by
    rw [g_en] at h
    rw [lv_args]
    rcases lv_cat w with hc | hc
    · have hb : Nat.beq w.category 2 = false := by rw [hc]; rfl
      rw [hb, cond_false] at h
      rw [if_neg (by omega)]
      cases j with
      | zero => simp at h; simp [h]
      | succ j =>
        have := g_en_at vs (n - 1) (i + 1) j v (by simpa using h)
        rw [show i + 1 + j = i + (j + 1) by omega] at this
        exact List.mem_cons_of_mem _ this
    · have hb : Nat.beq w.category 2 = true := by rw [hc]; rfl
      rw [hb, cond_true] at h
      rw [if_pos hc]
      match j, h with
      | 0, h => simp at h; simp [h]
      | 1, h => simp at h
      | j + 2, h =>
        have := g_en_at vs (n - 2) (i + 2) j v (by simpa using h)
        rw [show i + 2 + j = i + (j + 2) by omega] at this
        exact List.mem_cons_of_mem _ this
theorem g_ofW {l : Launch} {y : MethodName} {ws ws' : List Cond} {rm : Room} {Pc : Array Value → State → Prop} {Qc : Array Value → State → Outcome → State → Prop} {mc ms : Nat} {free : Addr → Prop} {cc : ByteArray} {maxL : Nat} {ret : Option FieldType}
    (hy : plainFor y = true) (hw : ws = Cond.code y cc maxL ret :: ws')
    (body : ∀ p e s m args below meth c s₁, BodyLoose p l y (headSpec ws rm) cc maxL ret e s m args below meth c s₁ → c.maxLocals = maxL → Pc args s →
      W p l e (headSpec ws rm).room s m args below meth c s.heap [] 0 0 (MQ below Qc args s mc ms free) (entryFrame m args maxL)) : Met l y ws rm Pc Qc mc ms free := by
  refine MetFree.of_bodySF (code := cc) (maxLocals := maxL) (ret := ret) hy ?_ ?_
  · intro args s m h hn
    obtain ⟨meth, c, h1, h2, h3, h4, h5, h6, -, -⟩ := Cond.code_spec hn (atoms_spec (ws := ws) h _ (by rw [hw]; exact List.mem_cons_self))
    exact ⟨meth, c, h1, h2, h3, h4, h5, h6⟩
  · intro p e s m args below meth c s₁ B hml hP _
    have hh0 : s₁.heap = s.heap := by rw [B.state]; rfl
    obtain ⟨t, a1, o, b1, b2, b3⟩ := body p e s m args below meth c s₁ B hml hP s₁ hh0 (Stand.of_body B)
    exact ⟨t, o, a1, b1, b2, ⟨b3.1, b3.2⟩⟩
theorem Ct_of {α : Type} {l : Launch} {G : gG} {M : gMt} {ρ : α → Option Value × gH} {As : List Value} {L : List (Option Value)} {h h1 : gH} {o : Option Value} {F : Option α} {r : α} (hok : g_ok M) (hpl : plainFor (m_y M) = true) (hL : g_en As (m_nL M) = L) (hlen : L.length = m_nL M) (hn : Nat.ble (lg_sl As).length (m_nL M) = true) (body : GX l G M (g_phi G ρ (m_R M).cells (m_R M).slots) 0 0 0 L [] h F) (hF : F = some r) (hρ : ρ r = (o, h1)) (hmh : m_h M = [] := by rfl) : Ct l G M As h o h1 := by
  refine g_ofW (cc := m_cc M) (maxL := m_nL M) (ret := m_ret M) hpl rfl ?_
  intro p e s m args below meth c s₁ B hml hv
  obtain ⟨rfl, hK, hM⟩ := hv
  have hts := atoms_spec (ws := g_ws M) B.pre
  rw [lg_entry_eq]
  have hl0 := lv_entry As (n := m_nL M) (Nat.le_of_ble_eq_true hn)
  generalize (lg_sl As ++ List.replicate (m_nL M - (lg_sl As).length) Slot.unset).toArray = ls at hl0 ⊢
  have hl : g_ls ls (m_nL M) L := by
    refine ⟨hl0.1, hl0.2.1, hlen, fun i v hi => ?_⟩
    rw [← hL] at hi
    have := g_en_at As (m_nL M) 0 i v hi
    rw [Nat.zero_add] at this
    exact hl0.2.2 _ this
  have ht : c.exceptionTable.toList = tableOf (m_h M) := by
    rw [hmh]
    obtain ⟨meth9, c9, h1, h2, -, -, -, -, h7, -⟩ := Cond.code_spec B.named (atoms_spec (ws := g_ws M) B.pre _ List.mem_cons_self)
    cases Option.some.inj (h1.symm.trans B.method)
    cases Option.some.inj (h2.symm.trans (Stand.of_body B).code)
    rw [Array.isEmpty_iff.mp h7]
    rfl
  have q := body r hF p e s m As.toArray below meth c s.heap [] ls ⟨B.exec, B.bytes, hml, B.returns, B.notSynchronized, findClass_of_methodNamed B.named, fun w hw hg => hts w (List.mem_cons_of_mem _ (List.mem_filter.mpr ⟨hw, hg⟩)), hK, ⟨fun h => by rw [(name_of_methodNamed B.named B.method).1]; exact h, by rw [hM.1]; exact hM.2.1, fun _ => ht⟩, hok⟩ hl hM va_S.rf
  unfold g_phi at q
  rw [hρ] at q
  exact q
