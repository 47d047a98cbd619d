/-! rows for the law's own methods: wider rooms, inherited and super calls, a host's nest, rows of dynamic length, clones -/
section GXL
variable {α : Type} {l : Launch} {G : gG} {M : gMt} {Φ : α → Method → Code → State → Array Value → List Frame → State → Prop} {k n k1 n1 pc nx x1 x2 : Nat} {L : List (Option Value)} {st stk : List Value} {h : gH} {F : Option α}
theorem X_wid {k' n' : Nat} (h1 : k ≤ k') (h2 : n ≤ n') (kk : GX l G M Φ k' n' pc L st h F) : GX l G M Φ k n pc L st h F :=
  fun r hr p e s m args below meth c H locs A B hl hM hS => W.widen h1 h2 (kk r hr p e s m args below meth c H locs A B hl hM hS)
theorem X_ble {a b : Nat} (h : a ≤ b) : Nat.ble a b = true := Nat.ble_eq_true_of_le h
theorem X_dupx1 {v w : Value} (hd : g_lk (m_code M) pc = some (.dup_x1, nx, x1, x2)) (hn : nx = pc + 1) (hc : v.category = 1) (hc2 : w.category = 1) (kk : GX l G M Φ k n nx L (v :: w :: v :: st) h F) : GX l G M Φ k n pc L (v :: w :: st) h F := by
  intro r hr p e s m args below meth c H locs A B hl hM hS
  have hg := g_dec B.2.2.2.2.2.2.2.2.2 hd hn
  have q := kk r hr p e s m args below meth c H locs A B hl hM hS
  rw [hn] at q
  exact lv_dup_x1 B.1 B.2.1 hg hc hc2 q
def g_gw (w : Cond) : Bool := decide (w ∈ lw_tbl) && goodWord w
theorem g_gw_in {w : Cond} (h : g_gw w = true) : GoodIn g_good [w] := by
  unfold g_gw at h
  rw [Bool.and_eq_true, decide_eq_true_eq] at h
  intro z hz
  rw [List.mem_singleton.mp hz]
  exact ⟨List.mem_filter.mpr h, good_of_word h.2⟩
theorem g_gw_tbl {w : Cond} (h : g_gw w = true) : w ∈ lw_tbl ∧ goodWord w = true := by
  unfold g_gw at h
  rw [Bool.and_eq_true, decide_eq_true_eq] at h
  exact h
theorem goodIn_c {big t : List Cond} {w : Cond} (h1 : GoodIn big [w]) (h2 : GoodIn big t) : GoodIn big (w :: t) := fun z hz => by
  rcases List.mem_cons.mp hz with e | e
  · exact h1 z (by rw [e]; exact List.mem_singleton.mpr rfl)
  · exact h2 z e
theorem goodIn_0 {big : List Cond} : GoodIn big [] := fun _ h => nomatch h
/-- what the tables say of a site that names M0 and runs M', on objects of the class C -/
def g_siteU (M M' M0 : gMt) (idx nA : Nat) (C : String) : Bool := decide (Cond.code (m_y M') (m_cc M') (m_nL M') (m_ret M') ∈ lw_tbl) && decide (Cond.code (m_y M0) (m_cc M0) (m_nL M0) (m_ret M0) ∈ lw_tbl) && g_gw (.methodLink (m_y M).cls idx (m_y M0)) && g_gw (.sameMethod (m_y M0).cls (m_y M0).cls (m_y M0).name (m_y M0).desc) && g_gw (.instanceMethod (m_y M0)) && g_gw (.selects C (m_y M0) (m_y M')) && g_gw (.instanceMethod (m_y M')) && g_gw (.initialized (m_y M').cls) && decide ((m_y M0).cls ≠ "java/lang/invoke/MethodHandle") && decide ((m_y M0).cls ≠ "java/lang/invoke/VarHandle") && decide ((parseMethodDescriptor (m_y M0).desc).map (fun d => d.parameters.length) = some nA) && Nat.ble ((m_R M').frames + 1) (m_R M).frames && Nat.ble (8 + (m_nL M' + 11) + (m_R M').locals) (m_R M).locals
theorem X_callU {M' M0 : gMt} {idx nA b ci : Nat} {As : List Value} {o : Option Value} {h1 : gH} (hd : g_lk (m_code M) pc = some (.invokevirtual idx, nx, x1, x2)) (hn : nx = pc + 3) (hs : g_siteU M M' M0 idx nA (g_cn ci) = true) (hlen : As.length = nA) (hstk : stk = As.reverse ++ .ref b :: st) (hst : Nat.ble ((st.map fun v => v.category).sum) 8 = true) (hrc : g_is h b ci = true) (hC : Ct l G M' (.ref b :: As) h o h1) (hk : Nat.ble (k + (m_R M').cells) (m_R M).cells = true) (hsl : Nat.ble (n + (m_R M').slots) (m_R M).slots = true)
    (kk : GX l G M Φ (k + (m_R M').cells) (n + (m_R M').slots) nx L (o.toList ++ st) h1 F) : GX l G M Φ k n pc L stk h F := by
  intro r hr p e s m args below meth c H locs A B hl hM hS
  have hg := g_dec B.2.2.2.2.2.2.2.2.2 hd hn
  unfold g_siteU at hs
  simp only [Bool.and_eq_true, decide_eq_true_eq] at hs
  obtain ⟨⟨⟨⟨⟨⟨⟨⟨⟨⟨⟨⟨s1, s2⟩, s3⟩, s4⟩, s5⟩, s6⟩, s7⟩, s8⟩, s9⟩, s10⟩, s11⟩, s12⟩, s13⟩ := hs
  have hts : ∀ w ∈ g_good, w.before args s = true := fun w hw => B.2.2.2.2.2.2.1 w (List.mem_filter.mp hw).1 (List.mem_filter.mp hw).2
  have hG : GoodIn g_good (va_wsO (m_y M).cls idx (g_cn ci) (m_y M0).cls (m_y M0) (m_y M') (g_ws M')) := goodIn_app (goodIn_c (g_gw_in s3) (goodIn_c (g_gw_in s4) (goodIn_c (g_gw_in s5) (goodIn_c (g_gw_in s6) (goodIn_c (g_gw_in s7) (goodIn_c (g_gw_in s8) goodIn_0)))))) (g_goodIn s1)
  have cu := va_cwO (R := m_R M) (args := args) (s := s) (mc := (m_R M').cells) (ms := (m_R M').slots) (rm := m_R M') nA hts hG (ws' := g_good) rfl rfl rfl (List.mem_filter.mpr ⟨s2, rfl⟩) ⟨s9, s10, s11⟩ ⟨Nat.le_of_ble_eq_true s12, Nat.le_of_ble_eq_true s13⟩
  have hrun := va_runU (As := As) (rest := st) (C := g_cn ci) (b := b) (H := H) (locs := locs) (cells := k) (slots := n) (below := below) (meth := meth) (e := e) (g := F0 m pc A stk) (cc := m_cc M) (nL := m_nL M) (index := idx) (Ts := g_good) (own := (m_y M).cls) ⟨B.1, B.2.1, B.2.2.1, B.2.2.2.2.2.1, hts⟩ hC cu ⟨g_blind, g_recv B hM ⟨hrc, rfl⟩, fun U hU hW => ⟨rfl, by rw [hU]; exact (B.2.2.2.2.2.2.2.1.warm hW (fun a ha hna => hS.2.1 a ha hna)), by rw [hU]; exact hM⟩⟩ rfl hlen hl.1 hstk (lv_room (Nat.le_of_ble_eq_true hst)) hg ⟨Nat.le_of_ble_eq_true hk, Nat.le_of_ble_eq_true hsl⟩
  refine g_after hrun hM B.2.2.2.2.2.2.2.2.1.2.1 hS (fun H1 locs1 hM1 hS1 => ?_)
  have q := kk r hr p e s m args below meth c H1 locs1 A B hl hM1 hS1
  rw [hn] at q
  exact q
/-- a call of the superclass's method -/
def g_siteSU (M M' : gMt) (idx nA : Nat) : Bool := decide (Cond.code (m_y M') (m_cc M') (m_nL M') (m_ret M') ∈ lw_tbl) && g_gw (.methodLink (m_y M).cls idx (m_y M')) && g_gw (.sameMethod (m_y M').cls (m_y M').cls (m_y M').name (m_y M').desc) && g_gw (.superclass (m_y M).cls (m_y M').cls) && g_gw (.instanceMethod (m_y M')) && g_gw (.initialized (m_y M').cls) && decide ((m_y M').name ≠ "<init>") && decide ((parseMethodDescriptor (m_y M').desc).map (fun d => d.parameters.length) = some nA) && Nat.ble ((m_R M').frames + 1) (m_R M).frames && Nat.ble (8 + (m_nL M' + 11) + (m_R M').locals) (m_R M).locals
theorem X_callSU {M' : gMt} {idx nA b ci : Nat} {As : List Value} {o : Option Value} {h1 : gH} (hd : g_lk (m_code M) pc = some (.invokespecial idx, nx, x1, x2)) (hn : nx = pc + 3) (hs : g_siteSU M M' idx nA = true) (hlen : As.length = nA) (hstk : stk = As.reverse ++ .ref b :: st) (hst : Nat.ble ((st.map fun v => v.category).sum) 8 = true) (hrc : g_is h b ci = true) (hC : Ct l G M' (.ref b :: As) h o h1) (hk : Nat.ble (k + (m_R M').cells) (m_R M).cells = true) (hsl : Nat.ble (n + (m_R M').slots) (m_R M).slots = true)
    (kk : GX l G M Φ (k + (m_R M').cells) (n + (m_R M').slots) nx L (o.toList ++ st) h1 F) : GX l G M Φ k n pc L stk h F := by
  intro r hr p e s m args below meth c H locs A B hl hM hS
  have hg := g_dec B.2.2.2.2.2.2.2.2.2 hd hn
  unfold g_siteSU at hs
  simp only [Bool.and_eq_true, decide_eq_true_eq] at hs
  obtain ⟨⟨⟨⟨⟨⟨⟨⟨⟨s1, s2⟩, s3⟩, s4⟩, s5⟩, s6⟩, s7⟩, s8⟩, s9⟩, s10⟩ := hs
  have hts : ∀ w ∈ g_good, w.before args s = true := fun w hw => B.2.2.2.2.2.2.1 w (List.mem_filter.mp hw).1 (List.mem_filter.mp hw).2
  have hG : GoodIn g_good (va_wsSU (m_y M).cls idx (m_y M') (g_ws M')) := goodIn_app (goodIn_c (g_gw_in s2) (goodIn_c (g_gw_in s3) (goodIn_c (g_gw_in s4) (goodIn_c (g_gw_in s5) (goodIn_c (g_gw_in s6) goodIn_0))))) (g_goodIn s1)
  have cu := va_cwSU (R := m_R M) (args := args) (s := s) (mc := (m_R M').cells) (ms := (m_R M').slots) (rm := m_R M') nA hts hG (ws' := g_good) rfl rfl rfl ⟨s7, s8⟩ ⟨Nat.le_of_ble_eq_true s9, Nat.le_of_ble_eq_true s10⟩
  obtain ⟨fs, hb0⟩ := g_is_some hrc
  obtain ⟨r9, hr9, -⟩ := (hM.2.2 b _ hb0).2
  have hat : ClassAt s r9.1 ((g_D G).1 ci) := (B.2.2.2.2.2.2.2.1.1.1 ci r9 hr9).2
  have hcn : g_cn ci = r9.1 := by unfold g_cn; rw [hr9]
  have hrun := va_runSU (As := As) (rest := st) (C := r9.1) (b := b) (H := H) (locs := locs) (cells := k) (slots := n) (below := below) (meth := meth) (e := e) (g := F0 m pc A stk) (cc := m_cc M) (nL := m_nL M) (index := idx) (Ts := g_good) (own := (m_y M).cls) hat ⟨B.1, B.2.1, B.2.2.1, B.2.2.2.2.2.1, hts⟩ hC cu ⟨g_blind, g_recv B hM ⟨hrc, hcn⟩, fun U hU hW => ⟨rfl, by rw [hU]; exact (B.2.2.2.2.2.2.2.1.warm hW (fun a ha hna => hS.2.1 a ha hna)), by rw [hU]; exact hM⟩⟩ rfl hlen hl.1 hstk (lv_room (Nat.le_of_ble_eq_true hst)) hg ⟨Nat.le_of_ble_eq_true hk, Nat.le_of_ble_eq_true hsl⟩
  refine g_after hrun hM B.2.2.2.2.2.2.2.2.1.2.1 hS (fun H1 locs1 hM1 hS1 => ?_)
  have q := kk r hr p e s m args below meth c H1 locs1 A B hl hM1 hS1
  rw [hn] at q
  exact q
def g_siteHo (M M' : gMt) (I : Instr) (nA : Nat) : Bool := decide (Cond.code (m_y M') (m_cc M') (m_nL M') (m_ret M') ∈ lw_tbl) && decide (Cond.initialized (m_y M').cls ∈ lw_tbl) && decide ((m_y M').cls ≠ "java/lang/invoke/MethodHandle") && decide ((m_y M').cls ≠ "java/lang/invoke/VarHandle") && decide ((parseMethodDescriptor (m_y M').desc).map (fun d => d.parameters.length) = some nA) && Nat.ble ((m_R M').frames + 1) (m_R M).frames && Nat.ble (8 + (m_nL M' + 11) + (m_R M').locals) (m_R M).locals && (match I with
  | .invokestatic idx => decide (Cond.static (m_y M') ∈ lw_tbl) && decide (Cond.methodLinkNest (m_y M).cls idx (m_y M') "LampRelayLaw" ∈ lw_tbl)
  | .invokespecial idx => decide (Cond.instanceMethod (m_y M') ∈ lw_tbl) && decide ((m_y M').name = "<init>") && decide (m_ret M' = none) && decide (Cond.methodLinkNest (m_y M).cls idx (m_y M') "LampRelayLaw" ∈ lw_tbl)
  | _ => false)
theorem X_callIH {M' : gMt} {idx nA b : Nat} {As : List Value} {o : Option Value} {h1 : gH} (hd : g_lk (m_code M) pc = some (.invokespecial idx, nx, x1, x2)) (hn : nx = pc + 3) (hs : g_siteHo M M' (.invokespecial idx) nA = true) (hlen : As.length = nA) (hstk : stk = As.reverse ++ .ref b :: st) (hst : Nat.ble ((st.map fun v => v.category).sum) 8 = true) (hC : Ct l G M' (.ref b :: As) h o h1) (hk : Nat.ble (k + (m_R M').cells) (m_R M).cells = true) (hsl : Nat.ble (n + (m_R M').slots) (m_R M).slots = true)
    (kk : GX l G M Φ (k + (m_R M').cells) (n + (m_R M').slots) nx L (o.toList ++ st) h1 F) : GX l G M Φ k n pc L stk h F := by
  intro r hr p e s m args below meth c H locs A B hl hM hS
  have hg := g_dec B.2.2.2.2.2.2.2.2.2 hd hn
  unfold g_siteHo at hs
  simp only [Bool.and_eq_true, decide_eq_true_eq] at hs
  obtain ⟨⟨⟨⟨⟨⟨⟨s1, s2⟩, s3⟩, s4⟩, s5⟩, s6⟩, s7⟩, ⟨⟨s8, s10⟩, s11⟩, s9⟩ := hs
  rw [s11] at s1
  have hts : ∀ w ∈ g_good, w.before args s = true := fun w hw => B.2.2.2.2.2.2.1 w (List.mem_filter.mp hw).1 (List.mem_filter.mp hw).2
  have ok : ∀ w ∈ lw_tbl, goodWord w = true → w.before args s = true := B.2.2.2.2.2.2.1
  have hws : g_ws M' = Cond.code (m_y M') (m_cc M') (m_nL M') none :: g_good := by unfold g_ws; rw [s11]
  have hNw : va_Nw (.methodLinkNest (m_y M).cls idx (m_y M') "LampRelayLaw") s := B.2.2.2.2.2.2.2.1.2.1 _ (List.mem_filter.mpr ⟨s9, rfl⟩)
  have cb := va_cnB (R := m_R M) (mc := (m_R M').cells) (ms := (m_R M').slots) (rm := m_R M') (ws := g_ws M') nA hts (g_goodIn (by rw [s11]; exact s1)) (ws' := g_good) hws rfl rfl hNw (ok _ s2 rfl) ⟨s3, s4, s5⟩ ⟨Nat.le_of_ble_eq_true s6, Nat.le_of_ble_eq_true s7⟩
  have hrun := va_runIN (As := As) (rest := st) (b := b) (H := H) (locs := locs) (cells := k) (slots := n) (below := below) (meth := meth) (e := e) (g := F0 m pc A stk) (cc := m_cc M) (nL := m_nL M) (index := idx) (Ts := g_good) (own := (m_y M).cls) ⟨B.1, B.2.1, B.2.2.1, B.2.2.2.2.2.1, hts⟩ hC ⟨cb, s10, ok _ s8 rfl⟩ ⟨g_blind, fun U hU hW => ⟨rfl, by rw [hU]; exact (B.2.2.2.2.2.2.2.1.warm hW (fun a ha hna => hS.2.1 a ha hna)), by rw [hU]; exact hM⟩⟩ rfl hlen hl.1 hstk (lv_room (Nat.le_of_ble_eq_true hst)) hg ⟨Nat.le_of_ble_eq_true hk, Nat.le_of_ble_eq_true hsl⟩
  intro T hT X
  obtain ⟨v, st₀, t, T', L1, h0, X', hL, e1, e2, ⟨hv, hM', hz, hq⟩, stp⟩ := hrun T hT X
  cases hv
  rw [h0] at hz hq
  have q := kk r hr p e s m args below meth c T'.heap (locs ++ L1) A B hl (by rw [e1]; exact hM') ⟨Nat.le_trans hS.1 (by rw [e1]; exact hz), fun q h1 h2 => by
      have hqb : q < g_b G := Nat.not_le.mp h2
      rw [e1, hq q hqb]; exact hS.2.1 q h1 h2, fun q hq => by
      rcases List.mem_append.mp hq with h | h
      · exact hS.2.2 q h
      · exact hL q h⟩
  rw [hn] at q
  obtain ⟨t2, a1, b1⟩ := q T' rfl X'
  exact ⟨t2, stp t2 a1, b1⟩
theorem X_kS_U {M' : gMt} {idx nA : Nat} {As : List Value} (hd : g_lk (m_code M) pc = some (.invokestatic idx, nx, x1, x2)) (hn : nx = pc + 3) (hs : g_site M M' (.invokestatic idx) nA = true) (hlen : As.length = nA) (hstk : stk = As.reverse ++ st) (hst : Nat.ble ((st.map fun v => v.category).sum) 8 = true) (hk1 : k + (m_R M').cells = k1) (hn1 : n + (m_R M').slots = n1) (hk : Nat.ble k1 (m_R M).cells = true) (hsl : Nat.ble n1 (m_R M).slots = true) {f : Option gH} {K : gH → Option α} (hC : ∀ h1, f = some h1 → Ct l G M' As h none h1) (kk : ∀ h1, GX l G M Φ k1 n1 nx L st h1 (K h1)) : GX l G M Φ k n pc L stk h (f.bind K) := by
  subst hk1; subst hn1
  exact X_bind fun x hx => X_callS hd hn hs hlen hstk hst (hC x hx) hk hsl (kk x)
theorem X_kS_I {M' : gMt} {idx nA : Nat} {As : List Value} (hd : g_lk (m_code M) pc = some (.invokestatic idx, nx, x1, x2)) (hn : nx = pc + 3) (hs : g_site M M' (.invokestatic idx) nA = true) (hlen : As.length = nA) (hstk : stk = As.reverse ++ st) (hst : Nat.ble ((st.map fun v => v.category).sum) 8 = true) (hk1 : k + (m_R M').cells = k1) (hn1 : n + (m_R M').slots = n1) (hk : Nat.ble k1 (m_R M).cells = true) (hsl : Nat.ble n1 (m_R M).slots = true) {f : Option (Int32 × gH)} {K : Int32 × gH → Option α} (hC : ∀ x h1, f = some (x, h1) → Ct l G M' As h (some (.int x)) h1) (kk : ∀ y, GX l G M Φ k1 n1 nx L (.int y.1 :: st) y.2 (K y)) : GX l G M Φ k n pc L stk h (f.bind K) := by
  subst hk1; subst hn1
  exact X_bind fun x hx => X_callS hd hn hs hlen hstk hst (hC x.1 x.2 hx) hk hsl (kk x)
theorem X_kS_A {M' : gMt} {idx nA : Nat} {As : List Value} (hd : g_lk (m_code M) pc = some (.invokestatic idx, nx, x1, x2)) (hn : nx = pc + 3) (hs : g_site M M' (.invokestatic idx) nA = true) (hlen : As.length = nA) (hstk : stk = As.reverse ++ st) (hst : Nat.ble ((st.map fun v => v.category).sum) 8 = true) (hk1 : k + (m_R M').cells = k1) (hn1 : n + (m_R M').slots = n1) (hk : Nat.ble k1 (m_R M).cells = true) (hsl : Nat.ble n1 (m_R M).slots = true) {f : Option (Nat × gH)} {K : Nat × gH → Option α} (hC : ∀ x h1, f = some (x, h1) → Ct l G M' As h (some (.ref x)) h1) (kk : ∀ y, GX l G M Φ k1 n1 nx L (.ref y.1 :: st) y.2 (K y)) : GX l G M Φ k n pc L stk h (f.bind K) := by
  subst hk1; subst hn1
  exact X_bind fun x hx => X_callS hd hn hs hlen hstk hst (hC x.1 x.2 hx) hk hsl (kk x)
theorem X_kS_Q {M' : gMt} {idx nA : Nat} {As : List Value} (hd : g_lk (m_code M) pc = some (.invokestatic idx, nx, x1, x2)) (hn : nx = pc + 3) (hs : g_site M M' (.invokestatic idx) nA = true) (hlen : As.length = nA) (hstk : stk = As.reverse ++ st) (hst : Nat.ble ((st.map fun v => v.category).sum) 8 = true) (hk1 : k + (m_R M').cells = k1) (hn1 : n + (m_R M').slots = n1) (hk : Nat.ble k1 (m_R M).cells = true) (hsl : Nat.ble n1 (m_R M).slots = true) {f : Option (Option Nat × gH)} {K : Option Nat × gH → Option α} (hC : ∀ x h1, f = some (x, h1) → Ct l G M' As h (some (va_rf x)) h1) (kk : ∀ y, GX l G M Φ k1 n1 nx L (va_rf y.1 :: st) y.2 (K y)) : GX l G M Φ k n pc L stk h (f.bind K) := by
  subst hk1; subst hn1
  exact X_bind fun x hx => X_callS hd hn hs hlen hstk hst (hC x.1 x.2 hx) hk hsl (kk x)
theorem X_kV_U {M' : gMt} {idx nA b ci : Nat} {As : List Value} (hd : g_lk (m_code M) pc = some (.invokevirtual idx, nx, x1, x2)) (hn : nx = pc + 3) (hs : g_site M M' (.invokevirtual idx) nA = true) (hlen : As.length = nA) (hstk : stk = As.reverse ++ .ref b :: st) (hst : Nat.ble ((st.map fun v => v.category).sum) 8 = true) (hrc : g_cn ci = (m_y M').cls) (hk1 : k + (m_R M').cells = k1) (hn1 : n + (m_R M').slots = n1) (hk : Nat.ble k1 (m_R M).cells = true) (hsl : Nat.ble n1 (m_R M).slots = true) {f : Option gH} {K : gH → Option α} (hC : ∀ h1, f = some h1 → Ct l G M' (.ref b :: As) h none h1) (kk : ∀ h1, GX l G M Φ k1 n1 nx L st h1 (K h1)) : GX l G M Φ k n pc L stk h (bif g_is h b ci then f.bind K else none) := by
  subst hk1; subst hn1
  cases hb : g_is h b ci with
  | false => exact X_none
  | true => exact X_bind fun x hx => X_callV hd hn hs hlen hstk hst ⟨hb, hrc⟩ (hC x hx) hk hsl (kk x)
theorem X_kV_I {M' : gMt} {idx nA b ci : Nat} {As : List Value} (hd : g_lk (m_code M) pc = some (.invokevirtual idx, nx, x1, x2)) (hn : nx = pc + 3) (hs : g_site M M' (.invokevirtual idx) nA = true) (hlen : As.length = nA) (hstk : stk = As.reverse ++ .ref b :: st) (hst : Nat.ble ((st.map fun v => v.category).sum) 8 = true) (hrc : g_cn ci = (m_y M').cls) (hk1 : k + (m_R M').cells = k1) (hn1 : n + (m_R M').slots = n1) (hk : Nat.ble k1 (m_R M).cells = true) (hsl : Nat.ble n1 (m_R M).slots = true) {f : Option (Int32 × gH)} {K : Int32 × gH → Option α} (hC : ∀ x h1, f = some (x, h1) → Ct l G M' (.ref b :: As) h (some (.int x)) h1) (kk : ∀ y, GX l G M Φ k1 n1 nx L (.int y.1 :: st) y.2 (K y)) : GX l G M Φ k n pc L stk h (bif g_is h b ci then f.bind K else none) := by
  subst hk1; subst hn1
  cases hb : g_is h b ci with
  | false => exact X_none
  | true => exact X_bind fun x hx => X_callV hd hn hs hlen hstk hst ⟨hb, hrc⟩ (hC x.1 x.2 hx) hk hsl (kk x)
theorem X_kV_A {M' : gMt} {idx nA b ci : Nat} {As : List Value} (hd : g_lk (m_code M) pc = some (.invokevirtual idx, nx, x1, x2)) (hn : nx = pc + 3) (hs : g_site M M' (.invokevirtual idx) nA = true) (hlen : As.length = nA) (hstk : stk = As.reverse ++ .ref b :: st) (hst : Nat.ble ((st.map fun v => v.category).sum) 8 = true) (hrc : g_cn ci = (m_y M').cls) (hk1 : k + (m_R M').cells = k1) (hn1 : n + (m_R M').slots = n1) (hk : Nat.ble k1 (m_R M).cells = true) (hsl : Nat.ble n1 (m_R M).slots = true) {f : Option (Nat × gH)} {K : Nat × gH → Option α} (hC : ∀ x h1, f = some (x, h1) → Ct l G M' (.ref b :: As) h (some (.ref x)) h1) (kk : ∀ y, GX l G M Φ k1 n1 nx L (.ref y.1 :: st) y.2 (K y)) : GX l G M Φ k n pc L stk h (bif g_is h b ci then f.bind K else none) := by
  subst hk1; subst hn1
  cases hb : g_is h b ci with
  | false => exact X_none
  | true => exact X_bind fun x hx => X_callV hd hn hs hlen hstk hst ⟨hb, hrc⟩ (hC x.1 x.2 hx) hk hsl (kk x)
theorem X_kV_Q {M' : gMt} {idx nA b ci : Nat} {As : List Value} (hd : g_lk (m_code M) pc = some (.invokevirtual idx, nx, x1, x2)) (hn : nx = pc + 3) (hs : g_site M M' (.invokevirtual idx) nA = true) (hlen : As.length = nA) (hstk : stk = As.reverse ++ .ref b :: st) (hst : Nat.ble ((st.map fun v => v.category).sum) 8 = true) (hrc : g_cn ci = (m_y M').cls) (hk1 : k + (m_R M').cells = k1) (hn1 : n + (m_R M').slots = n1) (hk : Nat.ble k1 (m_R M).cells = true) (hsl : Nat.ble n1 (m_R M).slots = true) {f : Option (Option Nat × gH)} {K : Option Nat × gH → Option α} (hC : ∀ x h1, f = some (x, h1) → Ct l G M' (.ref b :: As) h (some (va_rf x)) h1) (kk : ∀ y, GX l G M Φ k1 n1 nx L (va_rf y.1 :: st) y.2 (K y)) : GX l G M Φ k n pc L stk h (bif g_is h b ci then f.bind K else none) := by
  subst hk1; subst hn1
  cases hb : g_is h b ci with
  | false => exact X_none
  | true => exact X_bind fun x hx => X_callV hd hn hs hlen hstk hst ⟨hb, hrc⟩ (hC x.1 x.2 hx) hk hsl (kk x)
theorem X_kU_U {M' M0 : gMt} {idx nA b ci : Nat} {As : List Value} (hd : g_lk (m_code M) pc = some (.invokevirtual idx, nx, x1, x2)) (hn : nx = pc + 3) (hs : g_siteU M M' M0 idx nA (g_cn ci) = true) (hlen : As.length = nA) (hstk : stk = As.reverse ++ .ref b :: st) (hst : Nat.ble ((st.map fun v => v.category).sum) 8 = true) (hk1 : k + (m_R M').cells = k1) (hn1 : n + (m_R M').slots = n1) (hk : Nat.ble k1 (m_R M).cells = true) (hsl : Nat.ble n1 (m_R M).slots = true) {f : Option gH} {K : gH → Option α} (hC : ∀ h1, f = some h1 → Ct l G M' (.ref b :: As) h none h1) (kk : ∀ h1, GX l G M Φ k1 n1 nx L st h1 (K h1)) : GX l G M Φ k n pc L stk h (bif g_is h b ci then f.bind K else none) := by
  subst hk1; subst hn1
  cases hb : g_is h b ci with
  | false => exact X_none
  | true => exact X_bind fun x hx => X_callU hd hn hs hlen hstk hst hb (hC x hx) hk hsl (kk x)
theorem X_kU_I {M' M0 : gMt} {idx nA b ci : Nat} {As : List Value} (hd : g_lk (m_code M) pc = some (.invokevirtual idx, nx, x1, x2)) (hn : nx = pc + 3) (hs : g_siteU M M' M0 idx nA (g_cn ci) = true) (hlen : As.length = nA) (hstk : stk = As.reverse ++ .ref b :: st) (hst : Nat.ble ((st.map fun v => v.category).sum) 8 = true) (hk1 : k + (m_R M').cells = k1) (hn1 : n + (m_R M').slots = n1) (hk : Nat.ble k1 (m_R M).cells = true) (hsl : Nat.ble n1 (m_R M).slots = true) {f : Option (Int32 × gH)} {K : Int32 × gH → Option α} (hC : ∀ x h1, f = some (x, h1) → Ct l G M' (.ref b :: As) h (some (.int x)) h1) (kk : ∀ y, GX l G M Φ k1 n1 nx L (.int y.1 :: st) y.2 (K y)) : GX l G M Φ k n pc L stk h (bif g_is h b ci then f.bind K else none) := by
  subst hk1; subst hn1
  cases hb : g_is h b ci with
  | false => exact X_none
  | true => exact X_bind fun x hx => X_callU hd hn hs hlen hstk hst hb (hC x.1 x.2 hx) hk hsl (kk x)
theorem X_kU_A {M' M0 : gMt} {idx nA b ci : Nat} {As : List Value} (hd : g_lk (m_code M) pc = some (.invokevirtual idx, nx, x1, x2)) (hn : nx = pc + 3) (hs : g_siteU M M' M0 idx nA (g_cn ci) = true) (hlen : As.length = nA) (hstk : stk = As.reverse ++ .ref b :: st) (hst : Nat.ble ((st.map fun v => v.category).sum) 8 = true) (hk1 : k + (m_R M').cells = k1) (hn1 : n + (m_R M').slots = n1) (hk : Nat.ble k1 (m_R M).cells = true) (hsl : Nat.ble n1 (m_R M).slots = true) {f : Option (Nat × gH)} {K : Nat × gH → Option α} (hC : ∀ x h1, f = some (x, h1) → Ct l G M' (.ref b :: As) h (some (.ref x)) h1) (kk : ∀ y, GX l G M Φ k1 n1 nx L (.ref y.1 :: st) y.2 (K y)) : GX l G M Φ k n pc L stk h (bif g_is h b ci then f.bind K else none) := by
  subst hk1; subst hn1
  cases hb : g_is h b ci with
  | false => exact X_none
  | true => exact X_bind fun x hx => X_callU hd hn hs hlen hstk hst hb (hC x.1 x.2 hx) hk hsl (kk x)
theorem X_kU_Q {M' M0 : gMt} {idx nA b ci : Nat} {As : List Value} (hd : g_lk (m_code M) pc = some (.invokevirtual idx, nx, x1, x2)) (hn : nx = pc + 3) (hs : g_siteU M M' M0 idx nA (g_cn ci) = true) (hlen : As.length = nA) (hstk : stk = As.reverse ++ .ref b :: st) (hst : Nat.ble ((st.map fun v => v.category).sum) 8 = true) (hk1 : k + (m_R M').cells = k1) (hn1 : n + (m_R M').slots = n1) (hk : Nat.ble k1 (m_R M).cells = true) (hsl : Nat.ble n1 (m_R M).slots = true) {f : Option (Option Nat × gH)} {K : Option Nat × gH → Option α} (hC : ∀ x h1, f = some (x, h1) → Ct l G M' (.ref b :: As) h (some (va_rf x)) h1) (kk : ∀ y, GX l G M Φ k1 n1 nx L (va_rf y.1 :: st) y.2 (K y)) : GX l G M Φ k n pc L stk h (bif g_is h b ci then f.bind K else none) := by
  subst hk1; subst hn1
  cases hb : g_is h b ci with
  | false => exact X_none
  | true => exact X_bind fun x hx => X_callU hd hn hs hlen hstk hst hb (hC x.1 x.2 hx) hk hsl (kk x)
theorem X_kU_IR {M' M0 : gMt} {idx nA b ci : Nat} {As : List Value} (hd : g_lk (m_code M) pc = some (.invokevirtual idx, nx, x1, x2)) (hn : nx = pc + 3) (hs : g_siteU M M' M0 idx nA (g_cn ci) = true) (hlen : As.length = nA) (hstk : stk = As.reverse ++ .ref b :: st) (hst : Nat.ble ((st.map fun v => v.category).sum) 8 = true) (hz1 : (m_R M').cells = 0) (hz2 : (m_R M').slots = 0) (hk : Nat.ble k (m_R M).cells = true) (hsl : Nat.ble n (m_R M).slots = true) {f : Option Int32} {K : Int32 → Option α} (hC : ∀ x, f = some x → Ct l G M' (.ref b :: As) h (some (.int x)) h) (kk : ∀ x, GX l G M Φ k n nx L (.int x :: st) h (K x)) : GX l G M Φ k n pc L stk h (bif g_is h b ci then f.bind K else none) := by
  cases hb : g_is h b ci with
  | false => exact X_none
  | true =>
    refine X_bind fun x hx => X_callU hd hn hs hlen hstk hst hb (hC x hx) ?_ ?_ ?_
    · rw [hz1]; exact hk
    · rw [hz2]; exact hsl
    · rw [hz1, hz2]; exact kk x
theorem X_kU_LR {M' M0 : gMt} {idx nA b ci : Nat} {As : List Value} (hd : g_lk (m_code M) pc = some (.invokevirtual idx, nx, x1, x2)) (hn : nx = pc + 3) (hs : g_siteU M M' M0 idx nA (g_cn ci) = true) (hlen : As.length = nA) (hstk : stk = As.reverse ++ .ref b :: st) (hst : Nat.ble ((st.map fun v => v.category).sum) 8 = true) (hz1 : (m_R M').cells = 0) (hz2 : (m_R M').slots = 0) (hk : Nat.ble k (m_R M).cells = true) (hsl : Nat.ble n (m_R M).slots = true) {f : Option Int64} {K : Int64 → Option α} (hC : ∀ x, f = some x → Ct l G M' (.ref b :: As) h (some (.long x)) h) (kk : ∀ x, GX l G M Φ k n nx L (.long x :: st) h (K x)) : GX l G M Φ k n pc L stk h (bif g_is h b ci then f.bind K else none) := by
  cases hb : g_is h b ci with
  | false => exact X_none
  | true =>
    refine X_bind fun x hx => X_callU hd hn hs hlen hstk hst hb (hC x hx) ?_ ?_ ?_
    · rw [hz1]; exact hk
    · rw [hz2]; exact hsl
    · rw [hz1, hz2]; exact kk x
theorem X_kU_AR {M' M0 : gMt} {idx nA b ci : Nat} {As : List Value} (hd : g_lk (m_code M) pc = some (.invokevirtual idx, nx, x1, x2)) (hn : nx = pc + 3) (hs : g_siteU M M' M0 idx nA (g_cn ci) = true) (hlen : As.length = nA) (hstk : stk = As.reverse ++ .ref b :: st) (hst : Nat.ble ((st.map fun v => v.category).sum) 8 = true) (hz1 : (m_R M').cells = 0) (hz2 : (m_R M').slots = 0) (hk : Nat.ble k (m_R M).cells = true) (hsl : Nat.ble n (m_R M).slots = true) {f : Option Nat} {K : Nat → Option α} (hC : ∀ x, f = some x → Ct l G M' (.ref b :: As) h (some (.ref x)) h) (kk : ∀ x, GX l G M Φ k n nx L (.ref x :: st) h (K x)) : GX l G M Φ k n pc L stk h (bif g_is h b ci then f.bind K else none) := by
  cases hb : g_is h b ci with
  | false => exact X_none
  | true =>
    refine X_bind fun x hx => X_callU hd hn hs hlen hstk hst hb (hC x hx) ?_ ?_ ?_
    · rw [hz1]; exact hk
    · rw [hz2]; exact hsl
    · rw [hz1, hz2]; exact kk x
theorem X_kSU_U {M' : gMt} {idx nA b ci : Nat} {As : List Value} (hd : g_lk (m_code M) pc = some (.invokespecial idx, nx, x1, x2)) (hn : nx = pc + 3) (hs : g_siteSU M M' idx nA = true) (hlen : As.length = nA) (hstk : stk = As.reverse ++ .ref b :: st) (hst : Nat.ble ((st.map fun v => v.category).sum) 8 = true) (hk1 : k + (m_R M').cells = k1) (hn1 : n + (m_R M').slots = n1) (hk : Nat.ble k1 (m_R M).cells = true) (hsl : Nat.ble n1 (m_R M).slots = true) {f : Option gH} {K : gH → Option α} (hC : ∀ h1, f = some h1 → Ct l G M' (.ref b :: As) h none h1) (kk : ∀ h1, GX l G M Φ k1 n1 nx L st h1 (K h1)) : GX l G M Φ k n pc L stk h (bif g_is h b ci then f.bind K else none) := by
  subst hk1; subst hn1
  cases hb : g_is h b ci with
  | false => exact X_none
  | true => exact X_bind fun x hx => X_callSU hd hn hs hlen hstk hst hb (hC x hx) hk hsl (kk x)
theorem X_kSU_I {M' : gMt} {idx nA b ci : Nat} {As : List Value} (hd : g_lk (m_code M) pc = some (.invokespecial idx, nx, x1, x2)) (hn : nx = pc + 3) (hs : g_siteSU M M' idx nA = true) (hlen : As.length = nA) (hstk : stk = As.reverse ++ .ref b :: st) (hst : Nat.ble ((st.map fun v => v.category).sum) 8 = true) (hk1 : k + (m_R M').cells = k1) (hn1 : n + (m_R M').slots = n1) (hk : Nat.ble k1 (m_R M).cells = true) (hsl : Nat.ble n1 (m_R M).slots = true) {f : Option (Int32 × gH)} {K : Int32 × gH → Option α} (hC : ∀ x h1, f = some (x, h1) → Ct l G M' (.ref b :: As) h (some (.int x)) h1) (kk : ∀ y, GX l G M Φ k1 n1 nx L (.int y.1 :: st) y.2 (K y)) : GX l G M Φ k n pc L stk h (bif g_is h b ci then f.bind K else none) := by
  subst hk1; subst hn1
  cases hb : g_is h b ci with
  | false => exact X_none
  | true => exact X_bind fun x hx => X_callSU hd hn hs hlen hstk hst hb (hC x.1 x.2 hx) hk hsl (kk x)
theorem X_kSU_A {M' : gMt} {idx nA b ci : Nat} {As : List Value} (hd : g_lk (m_code M) pc = some (.invokespecial idx, nx, x1, x2)) (hn : nx = pc + 3) (hs : g_siteSU M M' idx nA = true) (hlen : As.length = nA) (hstk : stk = As.reverse ++ .ref b :: st) (hst : Nat.ble ((st.map fun v => v.category).sum) 8 = true) (hk1 : k + (m_R M').cells = k1) (hn1 : n + (m_R M').slots = n1) (hk : Nat.ble k1 (m_R M).cells = true) (hsl : Nat.ble n1 (m_R M).slots = true) {f : Option (Nat × gH)} {K : Nat × gH → Option α} (hC : ∀ x h1, f = some (x, h1) → Ct l G M' (.ref b :: As) h (some (.ref x)) h1) (kk : ∀ y, GX l G M Φ k1 n1 nx L (.ref y.1 :: st) y.2 (K y)) : GX l G M Φ k n pc L stk h (bif g_is h b ci then f.bind K else none) := by
  subst hk1; subst hn1
  cases hb : g_is h b ci with
  | false => exact X_none
  | true => exact X_bind fun x hx => X_callSU hd hn hs hlen hstk hst hb (hC x.1 x.2 hx) hk hsl (kk x)
theorem X_kSU_Q {M' : gMt} {idx nA b ci : Nat} {As : List Value} (hd : g_lk (m_code M) pc = some (.invokespecial idx, nx, x1, x2)) (hn : nx = pc + 3) (hs : g_siteSU M M' idx nA = true) (hlen : As.length = nA) (hstk : stk = As.reverse ++ .ref b :: st) (hst : Nat.ble ((st.map fun v => v.category).sum) 8 = true) (hk1 : k + (m_R M').cells = k1) (hn1 : n + (m_R M').slots = n1) (hk : Nat.ble k1 (m_R M).cells = true) (hsl : Nat.ble n1 (m_R M).slots = true) {f : Option (Option Nat × gH)} {K : Option Nat × gH → Option α} (hC : ∀ x h1, f = some (x, h1) → Ct l G M' (.ref b :: As) h (some (va_rf x)) h1) (kk : ∀ y, GX l G M Φ k1 n1 nx L (va_rf y.1 :: st) y.2 (K y)) : GX l G M Φ k n pc L stk h (bif g_is h b ci then f.bind K else none) := by
  subst hk1; subst hn1
  cases hb : g_is h b ci with
  | false => exact X_none
  | true => exact X_bind fun x hx => X_callSU hd hn hs hlen hstk hst hb (hC x.1 x.2 hx) hk hsl (kk x)
theorem X_kSU_IR {M' : gMt} {idx nA b ci : Nat} {As : List Value} (hd : g_lk (m_code M) pc = some (.invokespecial idx, nx, x1, x2)) (hn : nx = pc + 3) (hs : g_siteSU M M' idx nA = true) (hlen : As.length = nA) (hstk : stk = As.reverse ++ .ref b :: st) (hst : Nat.ble ((st.map fun v => v.category).sum) 8 = true) (hz1 : (m_R M').cells = 0) (hz2 : (m_R M').slots = 0) (hk : Nat.ble k (m_R M).cells = true) (hsl : Nat.ble n (m_R M).slots = true) {f : Option Int32} {K : Int32 → Option α} (hC : ∀ x, f = some x → Ct l G M' (.ref b :: As) h (some (.int x)) h) (kk : ∀ x, GX l G M Φ k n nx L (.int x :: st) h (K x)) : GX l G M Φ k n pc L stk h (bif g_is h b ci then f.bind K else none) := by
  cases hb : g_is h b ci with
  | false => exact X_none
  | true =>
    refine X_bind fun x hx => X_callSU hd hn hs hlen hstk hst hb (hC x hx) ?_ ?_ ?_
    · rw [hz1]; exact hk
    · rw [hz2]; exact hsl
    · rw [hz1, hz2]; exact kk x
theorem X_kSU_LR {M' : gMt} {idx nA b ci : Nat} {As : List Value} (hd : g_lk (m_code M) pc = some (.invokespecial idx, nx, x1, x2)) (hn : nx = pc + 3) (hs : g_siteSU M M' idx nA = true) (hlen : As.length = nA) (hstk : stk = As.reverse ++ .ref b :: st) (hst : Nat.ble ((st.map fun v => v.category).sum) 8 = true) (hz1 : (m_R M').cells = 0) (hz2 : (m_R M').slots = 0) (hk : Nat.ble k (m_R M).cells = true) (hsl : Nat.ble n (m_R M).slots = true) {f : Option Int64} {K : Int64 → Option α} (hC : ∀ x, f = some x → Ct l G M' (.ref b :: As) h (some (.long x)) h) (kk : ∀ x, GX l G M Φ k n nx L (.long x :: st) h (K x)) : GX l G M Φ k n pc L stk h (bif g_is h b ci then f.bind K else none) := by
  cases hb : g_is h b ci with
  | false => exact X_none
  | true =>
    refine X_bind fun x hx => X_callSU hd hn hs hlen hstk hst hb (hC x hx) ?_ ?_ ?_
    · rw [hz1]; exact hk
    · rw [hz2]; exact hsl
    · rw [hz1, hz2]; exact kk x
theorem X_kSU_AR {M' : gMt} {idx nA b ci : Nat} {As : List Value} (hd : g_lk (m_code M) pc = some (.invokespecial idx, nx, x1, x2)) (hn : nx = pc + 3) (hs : g_siteSU M M' idx nA = true) (hlen : As.length = nA) (hstk : stk = As.reverse ++ .ref b :: st) (hst : Nat.ble ((st.map fun v => v.category).sum) 8 = true) (hz1 : (m_R M').cells = 0) (hz2 : (m_R M').slots = 0) (hk : Nat.ble k (m_R M).cells = true) (hsl : Nat.ble n (m_R M).slots = true) {f : Option Nat} {K : Nat → Option α} (hC : ∀ x, f = some x → Ct l G M' (.ref b :: As) h (some (.ref x)) h) (kk : ∀ x, GX l G M Φ k n nx L (.ref x :: st) h (K x)) : GX l G M Φ k n pc L stk h (bif g_is h b ci then f.bind K else none) := by
  cases hb : g_is h b ci with
  | false => exact X_none
  | true =>
    refine X_bind fun x hx => X_callSU hd hn hs hlen hstk hst hb (hC x hx) ?_ ?_ ?_
    · rw [hz1]; exact hk
    · rw [hz2]; exact hsl
    · rw [hz1, hz2]; exact kk x
theorem X_kI_U {M' : gMt} {idx nA b : Nat} {As : List Value} (hd : g_lk (m_code M) pc = some (.invokespecial idx, nx, x1, x2)) (hn : nx = pc + 3) (hs : g_site M M' (.invokespecial idx) nA = true) (hlen : As.length = nA) (hstk : stk = As.reverse ++ .ref b :: st) (hst : Nat.ble ((st.map fun v => v.category).sum) 8 = true) (hk1 : k + (m_R M').cells = k1) (hn1 : n + (m_R M').slots = n1) (hk : Nat.ble k1 (m_R M).cells = true) (hsl : Nat.ble n1 (m_R M).slots = true) {f : Option gH} {K : gH → Option α} (hC : ∀ h1, f = some h1 → Ct l G M' (.ref b :: As) h none h1) (kk : ∀ h1, GX l G M Φ k1 n1 nx L st h1 (K h1)) : GX l G M Φ k n pc L stk h (f.bind K) := by
  subst hk1; subst hn1
  exact X_bind fun x hx => X_callI hd hn hs hlen hstk hst (hC x hx) hk hsl (kk x)
theorem X_kIH_U {M' : gMt} {idx nA b : Nat} {As : List Value} (hd : g_lk (m_code M) pc = some (.invokespecial idx, nx, x1, x2)) (hn : nx = pc + 3) (hs : g_siteHo M M' (.invokespecial idx) nA = true) (hlen : As.length = nA) (hstk : stk = As.reverse ++ .ref b :: st) (hst : Nat.ble ((st.map fun v => v.category).sum) 8 = true) (hk1 : k + (m_R M').cells = k1) (hn1 : n + (m_R M').slots = n1) (hk : Nat.ble k1 (m_R M).cells = true) (hsl : Nat.ble n1 (m_R M).slots = true) {f : Option gH} {K : gH → Option α} (hC : ∀ h1, f = some h1 → Ct l G M' (.ref b :: As) h none h1) (kk : ∀ h1, GX l G M Φ k1 n1 nx L st h1 (K h1)) : GX l G M Φ k n pc L stk h (f.bind K) := by
  subst hk1; subst hn1
  exact X_bind fun x hx => X_callIH hd hn hs hlen hstk hst (hC x hx) hk hsl (kk x)
/-- a new row of ints, of at most B -/
def g_nwI (h : gH) (i : Int32) (B : Nat) : Option gH := if i < 0 ∨ B < i.toNatClampNeg then none else some (g_add h (.inl (0, i.toNatClampNeg, .inl fun _ => 0)))
theorem X_nwI {B : Nat} {i : Int32} {K : gH → Option α} (hd : g_lk (m_code M) pc = some (.newarray .int, nx, x1, x2)) (hn : nx = pc + 2) (hk1 : k + 1 = k1) (hn1 : n + B = n1) (hB : Nat.ble (B * 4) 536870912 = true) (hk : Nat.ble k1 (m_R M).cells = true) (hs : Nat.ble n1 (m_R M).slots = true) (kk : ∀ h', GX l G M Φ k1 n1 nx L (.ref h.1 :: st) h' (K h')) : GX l G M Φ k n pc L (.int i :: st) h ((g_nwI h i B).bind K) := by
  subst hk1; subst hn1
  unfold g_nwI
  by_cases hc : i < 0 ∨ B < i.toNatClampNeg
  · rw [if_pos hc]; exact X_none
  · rw [if_neg hc]
    have h0 : ¬ i < 0 := fun q => hc (Or.inl q)
    have hle : i.toNatClampNeg ≤ B := Nat.not_lt.mp fun q => hc (Or.inr q)
    have hB2 := Nat.le_of_ble_eq_true hB
    have hs2 := Nat.le_of_ble_eq_true hs
    refine X_newarr (t := 0) (N := i.toNatClampNeg) (y := (i.toNatClampNeg, .inl fun _ => 0)) hd hn (by decide +kernel) rfl h0 rfl (X_ble ?_) hk (X_ble ?_) (fun _ => rfl) ?_
    · show i.toNatClampNeg * 4 ≤ 536870912
      omega
    · omega
    · exact X_wid (Nat.le_refl _) (by omega) (kk _)
def g_nwB (h : gH) (i : Int32) (B : Nat) : Option gH := if i < 0 ∨ B < i.toNatClampNeg then none else some (g_add h (.inl (1, i.toNatClampNeg, .inl fun _ => 0)))
theorem X_nwB {B : Nat} {i : Int32} {K : gH → Option α} (hd : g_lk (m_code M) pc = some (.newarray .byte, nx, x1, x2)) (hn : nx = pc + 2) (hk1 : k + 1 = k1) (hn1 : n + B = n1) (hB : Nat.ble (B * 4) 536870912 = true) (hk : Nat.ble k1 (m_R M).cells = true) (hs : Nat.ble n1 (m_R M).slots = true) (kk : ∀ h', GX l G M Φ k1 n1 nx L (.ref h.1 :: st) h' (K h')) : GX l G M Φ k n pc L (.int i :: st) h ((g_nwB h i B).bind K) := by
  subst hk1; subst hn1
  unfold g_nwB
  by_cases hc : i < 0 ∨ B < i.toNatClampNeg
  · rw [if_pos hc]; exact X_none
  · rw [if_neg hc]
    have h0 : ¬ i < 0 := fun q => hc (Or.inl q)
    have hle : i.toNatClampNeg ≤ B := Nat.not_lt.mp fun q => hc (Or.inr q)
    have hB2 := Nat.le_of_ble_eq_true hB
    have hs2 := Nat.le_of_ble_eq_true hs
    refine X_newarr (t := 1) (N := i.toNatClampNeg) (y := (i.toNatClampNeg, .inl fun _ => 0)) hd hn (by decide +kernel) rfl h0 rfl (X_ble ?_) hk (X_ble ?_) (fun _ => rfl) ?_
    · show i.toNatClampNeg * 1 ≤ 536870912
      omega
    · omega
    · exact X_wid (Nat.le_refl _) (by omega) (kk _)
def g_nwQ (h : gH) (t : Nat) (i : Int32) (B : Nat) : Option gH := if i < 0 ∨ B < i.toNatClampNeg then none else some (g_add h (.inl (t, i.toNatClampNeg, .inr (.inr (.inr (.inr (fun _ => none)))))))
theorem X_nwQ {B idx t : Nat} {i : Int32} {C : String} {K : gH → Option α} (hd : g_lk (m_code M) pc = some (.anewarray idx, nx, x1, x2)) (hn : nx = pc + 3) (hk1 : k + 1 = k1) (hn1 : n + B = n1) (hlk : Cond.classLink (m_y M).cls idx C ∈ lw_tbl) (hov : Cond.arrayOver (.object C) ∈ lw_tbl) (ht : (g_tl (g_c G))[t]? = some (g_c G t, .object C)) (hB : Nat.ble (B * 4) 536870912 = true) (hk : Nat.ble k1 (m_R M).cells = true) (hs : Nat.ble n1 (m_R M).slots = true) (kk : ∀ h', GX l G M Φ k1 n1 nx L (.ref h.1 :: st) h' (K h')) : GX l G M Φ k n pc L (.int i :: st) h ((g_nwQ h t i B).bind K) := by
  subst hk1; subst hn1
  unfold g_nwQ
  by_cases hc : i < 0 ∨ B < i.toNatClampNeg
  · rw [if_pos hc]; exact X_none
  · rw [if_neg hc]
    have h0 : ¬ i < 0 := fun q => hc (Or.inl q)
    have hle : i.toNatClampNeg ≤ B := Nat.not_lt.mp fun q => hc (Or.inr q)
    have hB2 := Nat.le_of_ble_eq_true hB
    have hs2 := Nat.le_of_ble_eq_true hs
    refine X_anew (t := t) (N := i.toNatClampNeg) hd hn hlk hov ht h0 rfl (X_ble (by omega)) hk (X_ble (by omega)) ?_
    exact X_wid (Nat.le_refl _) (by omega) (kk _)
/-- a new row of rows of ints -/
theorem X_nwR {B idx : Nat} {i : Int32} {K : gH → Option α} (hd : g_lk (m_code M) pc = some (.anewarray idx, nx, x1, x2)) (hn : nx = pc + 3) (hk1 : k + 1 = k1) (hn1 : n + B = n1) (hlk : Cond.classLink (m_y M).cls idx (FieldType.array .int).toString ∈ lw_tbl) (hov : Cond.arrayOver (.array .int) ∈ lw_tbl) (hB : Nat.ble (B * 4) 536870912 = true) (hk : Nat.ble k1 (m_R M).cells = true) (hs : Nat.ble n1 (m_R M).slots = true) (kk : ∀ h', GX l G M Φ k1 n1 nx L (.ref h.1 :: st) h' (K h')) : GX l G M Φ k n pc L (.int i :: st) h ((g_nwQ h 3 i B).bind K) := by
  subst hk1; subst hn1
  unfold g_nwQ
  by_cases hc : i < 0 ∨ B < i.toNatClampNeg
  · rw [if_pos hc]; exact X_none
  · rw [if_neg hc]
    have h0 : ¬ i < 0 := fun q => hc (Or.inl q)
    have hle : i.toNatClampNeg ≤ B := Nat.not_lt.mp fun q => hc (Or.inr q)
    have hB2 := Nat.le_of_ble_eq_true hB
    have hs2 := Nat.le_of_ble_eq_true hs
    have kw : GX l G M Φ (k + 1) (n + i.toNatClampNeg) nx L (.ref h.1 :: st) (g_add h (.inl (3, i.toNatClampNeg, .inr (.inr (.inr (.inr (fun _ => none))))))) (K (g_add h (.inl (3, i.toNatClampNeg, .inr (.inr (.inr (.inr (fun _ => none)))))))) := X_wid (Nat.le_refl _) (by omega) (kk _)
    intro r hr p e s m args below meth c H locs A B0 hl hM hS
    have hg := g_dec B0.2.2.2.2.2.2.2.2.2 hd hn
    have ok : ∀ w ∈ lw_tbl, goodWord w = true → w.before args s = true := B0.2.2.2.2.2.2.1
    refine W.anewA (t := .int) B0.1 B0.2.1 B0.2.2.2.2.2.1 (ok _ hlk rfl) (va_AOA.use (ty := .int) (A := args) (B0.2.2.2.2.2.2.2.1.2.1 _ (List.mem_filter.mpr ⟨hov, rfl⟩))) rfl hg rfl h0 (by omega) (Nat.le_of_ble_eq_true hk) (by omega) fun cA kA comp f1 f2 f3 f4 => ?_
    have hcA : cA = g_c G 3 := by
      have h1 := (B0.2.2.2.2.2.2.2.1.1.2 3 _ rfl).2
      exact Option.some.inj (f1.symm.trans h1)
    subst hcA
    generalize hH1 : H.push ({ cls := g_c G 3, slots := Array.replicate i.toNatClampNeg .null, vm := .none } : Cell) = H1
    have z1 : H1.size = h.1 + 1 := by rw [← hH1, Array.size_push, hM.1]
    have e1 : H1[h.1]? = some (arrV (g_c G 3) i.toNatClampNeg (fun _ => .null)) := by rw [← hH1, ← hM.1, Array.getElem?_push_size, ← arrV_new]
    have o1 : ∀ q : Nat, q < h.1 → H1[q]? = H[q]? := fun q hq => by rw [← hH1, Array.getElem?_push, if_neg (Nat.ne_of_lt (by rw [hM.1]; exact hq))]
    have q := kw r hr p e s m args below meth c H1 locs A B0 hl (hM.add (x := .inl (3, i.toNatClampNeg, .inr (.inr (.inr (.inr (fun _ => none)))))) (by show H1[h.1]? = some (vp_cell _ _); rw [vp_cell_q]; exact e1) z1 o1) (g_S.add hS hM.1 z1 o1)
    rw [hn] at q
    rw [hM.1]
    exact q
def g_isA (h : gH) (a t : Nat) : Bool := match h.2 a with
  | some (.inl (t', _)) => Nat.beq t' t
  | _ => false
/-- a row of ints into a row of rows -/
theorem X_qstA {a v : Nat} {i : Int32} {K : gH → Option α} (hd : g_lk (m_code M) pc = some (.aastore, nx, x1, x2)) (hn : nx = pc + 1) (hov : Cond.arrayOver (.array .int) ∈ lw_tbl) (kk : ∀ h', GX l G M Φ k n nx L st h' (K h')) : GX l G M Φ k n pc L (.ref v :: .int i :: .ref a :: st) h (bif g_isA h v 0 then (g_qst h a 3 i v).bind K else none) := by
  cases hb : g_isA h v 0 with
  | false => exact X_none
  | true =>
  refine X_bind fun h' hv => ?_
  unfold g_qst at hv
  cases hx : g_aQ h a 3 with
  | none => rw [hx] at hv; cases hv
  | some y =>
    obtain ⟨m0, f⟩ := y
    rw [hx] at hv
    simp only [Option.bind_some, Option.map_eq_some_iff] at hv
    obtain ⟨j, hj, rfl⟩ := hv
    obtain ⟨hin, rfl⟩ := g_ix_some hj
    have ha := g_aQ_some hx
    obtain ⟨y9, hvv⟩ : ∃ y9, h.2 v = some (.inl (0, y9)) := by
      unfold g_isA at hb
      split at hb
      · next t' y9 hc => cases Nat.eq_of_beq_eq_true hb; exact ⟨y9, hc⟩
      · cases hb
    intro r hr p e0 s m args below meth c H locs A B hl hM hS
    have hg := g_dec B.2.2.2.2.2.2.2.2.2 hd hn
    have hlt : i.toNatClampNeg < m0 := Nat.not_le.mp fun q => hin (Or.inr q)
    have h0 : ¬ i < 0 := fun q => hin (Or.inl q)
    have hcv : H[v]? = some (vp_cell (g_c G 0) y9) := (hM.2.2 v _ hvv).2
    have hK := B.2.2.2.2.2.2.2.1.1
    have haA := va_AOA.use (ty := .int) (A := args) (B.2.2.2.2.2.2.2.1.2.1 _ (List.mem_filter.mpr ⟨hov, rfl⟩))
    obtain ⟨comp, cA, kA, f1, -, k1, k2, f4⟩ := arrayOverA_spec haA
    have hcA : cA = g_c G 3 := Option.some.inj (f4.symm.trans (hK.2 3 _ rfl).2)
    subst hcA
    have hco : comp = g_c G 0 := Option.some.inj (f1.symm.trans (hK.2 0 _ rfl).2)
    subst hco
    obtain ⟨-, k0, hk0, -⟩ := (hK.2 0 _ rfl).1 0 (fun _ => .null)
    have hvm0 : (vp_cell (g_c G 0) y9).vm = .none := by
      obtain ⟨n, f | f | f | f | f⟩ := y9 <;> rfl
    have hcl0 : (vp_cell (g_c G 0) y9).cls = g_c G 0 := by
      obtain ⟨n, f | f | f | f | f⟩ := y9 <;> rfl
    have hP := g_PA hM ha
    refine W.aast B.1 B.2.1 (hP 0 _ rfl) (fun q h => by cases h) (fun h => by cases h) k1 k2 rfl hk0 ⟨h0, by show _ < (arrV _ _ _).slots.size; rw [arrV_size]; exact hlt⟩ hcv (fun q h => by rw [hvm0] at h; cases h) (by rw [hcl0]; exact hk0) (by rw [hcl0]; exact va_asg _ _) rfl rfl hg fun H1 e z oq => ?_
    have q := kk _ r hr p e0 s m args below meth c H1 (locs ++ [⟨a, i.toNatClampNeg⟩]) A B hl (hM.set ha ?_ z oq) (g_S.put hS z oq (hM.2.2 a _ ha).1)
    · rw [hn] at q
      exact q
    · show H1[a]? = some (vp_cell _ _)
      rw [e]
      rw [vp_cell_q, vp_cell_q, arrV_store]
      congr 2
      funext q
      by_cases hq : q = i.toNatClampNeg
      · subst hq
        simp [updV, va_up, va_rf]
      · simp [updV, va_up, hq]
/-- null into a row of objects -/
theorem X_qstN {a t : Nat} {i : Int32} {C : String} {K : gH → Option α} (hd : g_lk (m_code M) pc = some (.aastore, nx, x1, x2)) (hn : nx = pc + 1) (ht : (g_tl (g_c G))[t]? = some (g_c G t, .object C)) (kk : ∀ h', GX l G M Φ k n nx L st h' (K h')) : GX l G M Φ k n pc L (.null :: .int i :: .ref a :: st) h (((g_aQ h a t).bind fun y => (g_ix i y.1).map fun j => g_set h a (.inl (t, y.1, .inr (.inr (.inr (.inr (va_up y.2 j none))))))).bind K) := by
  refine X_bind fun h' hv => ?_
  cases hx : g_aQ h a t with
  | none => rw [hx] at hv; cases hv
  | some y =>
    obtain ⟨m0, f⟩ := y
    rw [hx] at hv
    simp only [Option.bind_some, Option.map_eq_some_iff] at hv
    obtain ⟨j, hj, rfl⟩ := hv
    obtain ⟨hin, rfl⟩ := g_ix_some hj
    have ha := g_aQ_some hx
    intro r hr p e0 s m args below meth c H locs A B hl hM hS
    have hg := g_dec B.2.2.2.2.2.2.2.2.2 hd hn
    have hP := g_PA hM ha
    refine va_WaastN (C := C) B.1 B.2.1 (hP 0 _ rfl) ((B.2.2.2.2.2.2.2.1.1.2 t _ ht).1 m0 (fun j => va_rf (f j))) (fun h => by cases h) (by show ¬ (i < 0 ∨ (arrV _ _ _).slots.size ≤ _); rw [arrV_size]; exact hin) rfl rfl hg fun H1 e z oq => ?_
    have q := kk _ r hr p e0 s m args below meth c H1 (locs ++ [⟨a, i.toNatClampNeg⟩]) A B hl (hM.set ha ?_ z oq) (g_S.put hS z oq (hM.2.2 a _ ha).1)
    · rw [hn] at q
      exact q
    · show H1[a]? = some (vp_cell _ _)
      rw [e]
      rw [vp_cell_q, vp_cell_q, arrV_store]
      congr 2
      funext q
      by_cases hq : q = i.toNatClampNeg
      · subst hq
        simp [updV, va_up, va_rf]
      · simp [updV, va_up, hq]
/-- an object or null into a row -/
def g_qsO (h : gH) (a t ci : Nat) (i : Int32) (x : Option Nat) : Option gH := match x with
  | some v => bif g_is h v ci then g_qst h a t i v else none
  | none => (g_aQ h a t).bind fun y => (g_ix i y.1).map fun j => g_set h a (.inl (t, y.1, .inr (.inr (.inr (.inr (va_up y.2 j none))))))
theorem X_qsO {a t ci : Nat} {x : Option Nat} {i : Int32} {C : String} {K : gH → Option α} (hd : g_lk (m_code M) pc = some (.aastore, nx, x1, x2)) (hn : nx = pc + 1) (ht : (g_tl (g_c G))[t]? = some (g_c G t, .object C)) (hcn : g_cn ci = C) (kk : ∀ h', GX l G M Φ k n nx L st h' (K h')) : GX l G M Φ k n pc L (va_rf x :: .int i :: .ref a :: st) h ((g_qsO h a t ci i x).bind K) := by
  cases x with
  | none => exact X_qstN hd hn ht kk
  | some v =>
    have q := X_qst (v := v) (h := h) (a := a) (i := i) (K := K) hd hn ht hcn kk
    show GX l G M Φ k n pc L (va_rf (some v) :: .int i :: .ref a :: st) h ((bif g_is h v ci then g_qst h a t i v else none).bind K)
    cases hb : g_is h v ci with
    | false => exact X_none
    | true => rw [hb] at q; exact q
/-- clone of a row of ints, of at most B; and its cast -/
def g_cln (h : gH) (a B : Nat) : Option gH := (g_aI h a 0).bind fun y => if B < y.1 then none else some (g_add h (.inl (0, y.1, .inl y.2)))
theorem X_cln {a B idx idx2 n2 y1 y2 : Nat} {K : gH → Option α} (hd : g_lk (m_code M) pc = some (.invokevirtual idx, nx, x1, x2)) (hn : nx = pc + 3) (hd2 : g_lk (m_code M) nx = some (.checkcast idx2, n2, y1, y2)) (hn2 : n2 = nx + 3) (hw : (g_gw (.methodLink (m_y M).cls idx ⟨"[I", "clone", "()Ljava/lang/Object;"⟩) && g_gw (.sameMethod "[I" "java/lang/Object" "clone" "()Ljava/lang/Object;") && g_gw (.native ⟨"java/lang/Object", "clone", "()Ljava/lang/Object;"⟩) && g_gw (.instanceMethod ⟨"java/lang/Object", "clone", "()Ljava/lang/Object;"⟩) && g_gw (.selects "[I" ⟨"[I", "clone", "()Ljava/lang/Object;"⟩ ⟨"java/lang/Object", "clone", "()Ljava/lang/Object;"⟩) && g_gw (.classLink (m_y M).cls idx2 "[I") && decide (Cond.castable "[I" "java/lang/Cloneable" ∈ lw_tbl)) = true)
    (hk1 : k + 1 = k1) (hn1 : n + B = n1) (hf : Nat.ble 1 (m_R M).frames = true) (hlo : Nat.ble ((st.map fun v => v.category).sum + 14) (m_R M).locals = true) (hk : Nat.ble k1 (m_R M).cells = true) (hs : Nat.ble n1 (m_R M).slots = true) (kk : ∀ h', GX l G M Φ k1 n1 n2 L (.ref h.1 :: st) h' (K h')) : GX l G M Φ k n pc L (.ref a :: st) h ((g_cln h a B).bind K) := by
  subst hk1; subst hn1
  simp only [Bool.and_eq_true, decide_eq_true_eq] at hw
  obtain ⟨⟨⟨⟨⟨⟨w1, w2⟩, w3⟩, w4⟩, w5⟩, w6⟩, w7⟩ := hw
  unfold g_cln
  cases hx : g_aI h a 0 with
  | none => exact X_none
  | some y =>
    obtain ⟨m0, f⟩ := y
    rw [Option.bind_some]
    by_cases hc : B < m0
    · rw [if_pos hc]; exact X_none
    · rw [if_neg hc]
      have ha := g_aI_some hx
      have hs2 := Nat.le_of_ble_eq_true hs
      have kw : GX l G M Φ (k + 1) (n + m0) n2 L (.ref h.1 :: st) (g_add h (.inl (0, m0, .inl f))) (K (g_add h (.inl (0, m0, .inl f)))) := X_wid (Nat.le_refl _) (by omega) (kk _)
      intro r hr p e s m args below meth c H locs A B0 hl hM hS
      have hg := g_dec B0.2.2.2.2.2.2.2.2.2 hd hn
      have hg2 := g_dec B0.2.2.2.2.2.2.2.2.2 hd2 hn2
      have ok : ∀ w, g_gw w = true → w.before args s = true := fun w hw => B0.2.2.2.2.2.2.1 w (g_gw_tbl hw).1 (g_gw_tbl hw).2
      have hK := B0.2.2.2.2.2.2.2.1.1
      have hnm : s.vm.findClass "[I" = some (g_c G 0) := (hK.2 0 _ rfl).2
      have hcl : va_Nw (.castable "[I" "java/lang/Cloneable") s := B0.2.2.2.2.2.2.2.1.2.1 _ (List.mem_filter.mpr ⟨w7, rfl⟩)
      obtain ⟨c0, t0', f1, f2, f3⟩ := Cond.castable_spec (va_Nw.use (A := args) rfl hcl)
      cases hnm.symm.trans f1
      have q := kw r hr p e s m args below meth c (H.push (vp_cell (g_c G 0) (m0, .inl f))) locs A B0 hl (hM.add (x := .inl (0, m0, .inl f)) (by show (H.push _)[h.1]? = some (vp_cell _ _); rw [← hM.1, Array.getElem?_push_size]) (by rw [Array.size_push, hM.1]) (fun q hq => by rw [Array.getElem?_push, if_neg (Nat.ne_of_lt (by rw [hM.1]; exact hq))])) (g_S.add hS hM.1 (by rw [Array.size_push, hM.1]) (fun q hq => by rw [Array.getElem?_push, if_neg (Nat.ne_of_lt (by rw [hM.1]; exact hq))]))
      intro T hT X
      have hcellT : T.heap[a]? = some (vp_cell (g_c G 0) (m0, .inl f)) := by rw [hT]; exact (hM.2.2 a _ ha).2
      obtain ⟨-, kA, hkA, comp, hkind⟩ := State.isArrayOf_alike X.warmed.alike ((hK.2 0 _ rfl).1 0 (fun _ => .null))
      obtain ⟨-, kS, hkS, compS, hkindS⟩ := (hK.2 0 _ rfl).1 0 (fun _ => .null)
      obtain ⟨vm', X', st'⟩ := X.cloneArray B0.1 B0.2.2.2.2.2.1 (ok _ w1) (ok _ w2) (ok _ w3) (ok _ w4) (ok _ w5) (a := a) (cell := vp_cell (g_c G 0) (m0, .inl f)) hcellT (fun k h => by cases h) (fun h => by cases h) hnm f2 f3
        (fun i v hv => by
          have hk' : T.vm.classes[g_c G 0]? = some kA := hkA
          have hfit : fits .int v = true := by
            have hi : i < m0 := by
              have := (Array.getElem?_eq_some_iff.mp hv).1
              rw [show (vp_cell (g_c G 0) (m0, .inl f)).slots.size = m0 from arrV_size _ _ _] at this
              exact this
            have e : (vp_cell (g_c G 0) (m0, .inl f)).slots[i]? = some (.int (f i)) := arrV_read _ _ hi
            rw [e] at hv
            cases hv
            rfl
          simpa [State.fitsSlot, State.slotType?, vp_cell, arrV, hk', hkind] using hfit)
        (g := F0 m pc A (.ref a :: st)) rfl (by rw [B0.2.2.1]; exact hl.1) rfl (by rw [B0.2.1]; exact hg) (Nat.le_of_ble_eq_true hf) (by have := Nat.le_of_ble_eq_true hlo; show 2 * 0 + _ + 14 ≤ _; omega) (Nat.le_of_ble_eq_true hk) (by show n + (arrV _ _ _).slots.size ≤ _; rw [arrV_size]; omega) (hloader := Vm.clonesLoader_of_array hkS hkindS)
      have hsz : (vp_cell (g_c G 0) (m0, .inl f)).slots.size = m0 := arrV_size _ _ _
      have hcE : ({ cls := (vp_cell (g_c G 0) (m0, .inl f)).cls, slots := (vp_cell (g_c G 0) (m0, .inl f)).slots } : Cell) = vp_cell (g_c G 0) (m0, .inl f) := rfl
      rw [hcE, hsz] at X'
      have hTh : T.heap.size = h.1 := by rw [hT]; exact hM.1
      obtain ⟨vm2, X2, st2⟩ := X'.checkcastYes B0.1 B0.2.2.2.2.2.1 (ok _ w6) (a := h.1) (cell := vp_cell (g_c G 0) (m0, .inl f)) (by show (T.heap.push _)[h.1]? = _; rw [← hTh, Array.getElem?_push_size]) rfl hnm (va_asg _ _) (g := F0 m nx A (.ref h.1 :: st)) rfl rfl (by rw [B0.2.1]; exact hg2)
      obtain ⟨t, a1, b1⟩ := q (((T.setVm vm').pushCell (vp_cell (g_c G 0) (m0, .inl f))).setVm vm2) (by show T.heap.push _ = _; rw [hT]) X2
      refine ⟨t, st' t ?_, b1⟩
      rw [hcE, hTh]
      subst hn
      rw [hn2] at a1
      exact st2 t a1
end GXL
