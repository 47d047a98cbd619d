/-! methods with handlers, exactly; rows of references; the law's end -/
def CtY (l : Launch) (G : gG) (M : gMt) (As : List Value) (h : gH) (o : Option Value) (h' : gH) : Prop :=
  Met l (m_y M) (g_wsH M) (m_R M) (va_Pc As (fun U => g_K G U U.heap ∧ g_M G h U.heap)) (g_Qc G o h') (m_R M).cells (m_R M).slots (g_A G)
theorem CtY_of {α : Type} {l : Launch} {G : gG} {M : gMt} {ρ : α → Option Value × gH} {As : List Value} {L : List (Option Value)} {h h1 : gH} {o : Option Value} {F : Option α} {r : α} (hok : g_ok M) (hpl : plainName (m_y M).cls = true) (hL : g_en As (m_nL M) = L) (hlen : L.length = m_nL M) (hn : Nat.ble (lg_sl As).length (m_nL M) = true) (body : GX l G M (g_phi G ρ (m_R M).cells (m_R M).slots) 0 0 0 L [] h F) (hF : F = some r) (hρ : ρ r = (o, h1)) : CtY l G M As h o h1 := by
  unfold CtY Met
  refine MetFree.of_bodyS (code := m_cc M) (maxLocals := m_nL M) (ret := m_ret M) hpl ?_ ?_
  · intro args s m h hn
    obtain ⟨m9, meth, c, hn9, h1, h2, h3, h4, -, h5, h6, -⟩ := Cond.codeWith_spec (atoms_spec (ws := g_wsH M) h _ List.mem_cons_self)
    cases hn.symm.trans hn9
    exact ⟨meth, c, h1, h2, h3, h4, h5, h6⟩
  · intro p e s m args below meth c s₁ B hml hv _
    obtain ⟨rfl, hK, hM⟩ := hv
    have hh0 : s₁.heap = s.heap := by rw [B.state]; rfl
    have hts := atoms_spec (ws := g_wsH M) B.pre
    have htt : c.exceptionTable.toList = tableOf (m_h M) := vx_table (x := m_y M) B (hts _ List.mem_cons_self)
    have hl0 := lv_entry As (n := m_nL M) (Nat.le_of_ble_eq_true hn)
    rw [lg_entry_eq]
    generalize (lg_sl As ++ List.replicate (m_nL M - (lg_sl As).length) Slot.unset).toArray = ls at hl0 ⊢
    have hl : g_ls ls (m_nL M) L := by
      refine ⟨hl0.1, hl0.2.1, hlen, fun i v hi => ?_⟩
      rw [← hL] at hi
      have := g_en_at As (m_nL M) 0 i v hi
      rw [Nat.zero_add] at this
      exact hl0.2.2 _ this
    have q := body r hF p e s m As.toArray below meth c s.heap [] ls ⟨B.exec, B.bytes, hml, B.returns, B.notSynchronized, findClass_of_methodNamed B.named, fun w hw hg => hts w (List.mem_cons_of_mem _ (List.mem_filter.mpr ⟨hw, hg⟩)), hK, ⟨fun h => by rw [(name_of_methodNamed B.named B.method).1]; exact h, by rw [hM.1]; exact hM.2.1, fun _ => htt⟩, hok⟩ hl hM va_S.rf
    unfold g_phi at q
    rw [hρ] at q
    obtain ⟨t, a1, o9, b1, b2, b3⟩ := q s₁ hh0 (Stand.of_body B)
    exact ⟨t, o9, a1, b1, b2, ⟨b3.1, b3.2⟩⟩
section GXY
variable {α : Type} {l : Launch} {G : gG} {M : gMt} {Φ : α → Method → Code → State → Array Value → List Frame → State → Prop} {k n k1 n1 pc nx x1 x2 : Nat} {L : List (Option Value)} {st stk : List Value} {h : gH} {F : Option α}
theorem X_callY {M' : gMt} {idx nA : Nat} {As : List Value} {o : Option Value} {h1 : gH} (hd : g_lk (m_code M) pc = some (.invokestatic idx, nx, x1, x2)) (hn : nx = pc + 3) (hs : g_siteH M M' idx nA = true) (hlen : As.length = nA) (hstk : stk = As.reverse ++ st) (hst : Nat.ble ((st.map fun v => v.category).sum) 8 = true) (hC : CtY l G M' As h o h1) (hk : k + (m_R M').cells ≤ (m_R M).cells) (hsl : n + (m_R M').slots ≤ (m_R M).slots)
    (kk : GX l G M Φ (k + (m_R M').cells) (n + (m_R M').slots) nx L (o.toList ++ st) h1 F) : GX l G M Φ k n pc L stk h F := by
  intro r hr p e s m args below meth c H locs A B hl hM hS
  have hg := g_dec B.2.2.2.2.2.2.2.2.2 hd hn
  unfold g_siteH at hs
  simp only [Bool.and_eq_true, decide_eq_true_eq] at hs
  obtain ⟨⟨⟨⟨⟨⟨⟨⟨s1, s2⟩, s3⟩, s4⟩, s5⟩, s6⟩, s7⟩, s8⟩, s9⟩ := hs
  have hts : ∀ w ∈ g_good, w.before args s = true := fun w hw => B.2.2.2.2.2.2.1 w (List.mem_filter.mp hw).1 (List.mem_filter.mp hw).2
  have ok : ∀ w ∈ lw_tbl, goodWord w = true → w.before args s = true := B.2.2.2.2.2.2.1
  have hG : GoodIn g_good (g_wsH M') := by
    intro w hw
    rcases List.mem_cons.mp hw with rfl | hw
    · exact ⟨List.mem_filter.mpr ⟨s1, rfl⟩, good_of_word rfl⟩
    · exact ⟨hw, good_of_word (List.mem_filter.mp hw).2⟩
  have hc : Cond.codeWith (m_y M') (m_cc M') (m_nL M') (m_ret M') (m_h M') ∈ g_wsH M' := List.mem_cons_self
  have cw : vx_CSW (m_R M) s args (m_y M).cls idx (m_y M') (m_cc M') (m_nL M') (m_ret M') (m_h M') (g_wsH M') (m_R M') (m_R M').cells (m_R M').slots nA := by
    refine ⟨⟨rfl, rfl, Nat.le_of_ble_eq_true s6, Nat.le_of_ble_eq_true s7, pay_in hts hG, hc⟩, ok _ s1 rfl, ok _ s2 rfl, ⟨s3, s4⟩, fun sig h => ?_, ok _ s9 rfl, ok _ s8 rfl⟩
    rw [h] at s5
    exact (Option.some.inj s5).symm
  have hrun := vx_runSW (As := As) (rest := st) (H := H) (locs := locs) (cells := k) (slots := n) (below := below) (meth := meth) (e := e) (g := F0 m pc A stk) (cc := m_cc M) (nL := m_nL M) (index := idx) (Ts := g_good) (own := (m_y M).cls) ⟨B.1, B.2.1, B.2.2.1, B.2.2.2.2.2.1, hts⟩ hC cw ⟨g_blind, fun U hU hW => ⟨rfl, by rw [hU]; exact (B.2.2.2.2.2.2.2.1.warm hW (fun a ha hna => hS.2.1 a ha hna)), by rw [hU]; exact hM⟩⟩ rfl hlen hl.1 hstk (lv_room (Nat.le_of_ble_eq_true hst)) hg ⟨hk, hsl⟩
  refine g_after hrun hM B.2.2.2.2.2.2.2.2.1.2.1 hS (fun H1 locs1 hM1 hS1 => ?_)
  have q := kk r hr p e s m args below meth c H1 locs1 A B hl hM1 hS1
  rw [hn] at q
  exact q
theorem X_kY_I {M' : gMt} {idx nA : Nat} {As : List Value} (hd : g_lk (m_code M) pc = some (.invokestatic idx, nx, x1, x2)) (hn : nx = pc + 3) (hs : g_siteH M M' idx nA = true) (hlen : As.length = nA) (hstk : stk = As.reverse ++ st) (hst : Nat.ble ((st.map fun v => v.category).sum) 8 = true) (hk1 : k + (m_R M').cells = k1) (hn1 : n + (m_R M').slots = n1) (hk : Nat.ble k1 (m_R M).cells = true) (hsl : Nat.ble n1 (m_R M).slots = true) {f : Option (Int32 × gH)} {K : Int32 × gH → Option α} (hC : ∀ x h1, f = some (x, h1) → CtY l G M' As h (some (.int x)) h1) (kk : ∀ y, GX l G M Φ k1 n1 nx L (.int y.1 :: st) y.2 (K y)) : GX l G M Φ k n pc L stk h (f.bind K) := by
  subst hk1; subst hn1
  exact X_bind fun x hx => X_callY hd hn hs hlen hstk hst (hC x.1 x.2 hx) (Nat.le_of_ble_eq_true hk) (Nat.le_of_ble_eq_true hsl) (kk x)
theorem X_callS_UR {M' : gMt} {idx nA : Nat} {As : List Value} (hd : g_lk (m_code M) pc = some (.invokestatic idx, nx, x1, x2)) (hn : nx = pc + 3) (hs : g_site M M' (.invokestatic idx) nA = true) (hlen : As.length = nA) (hstk : stk = As.reverse ++ st) (hst : Nat.ble ((st.map fun v => v.category).sum) 8 = true) (hz1 : (m_R M').cells = 0) (hz2 : (m_R M').slots = 0) (hk : Nat.ble k (m_R M).cells = true) (hsl : Nat.ble n (m_R M).slots = true) {f : Option Unit} {K : Unit → Option α} (hC : ∀ x, f = some x → Ct l G M' As h none h) (kk : ∀ x, GX l G M Φ k n nx L st h (K x)) : GX l G M Φ k n pc L stk h (f.bind K) := by
  refine X_bind fun x hx => X_callS hd hn hs hlen hstk hst (hC x hx) ?_ ?_ ?_
  · rw [hz1]; exact hk
  · rw [hz2]; exact hsl
  · rw [hz1, hz2]; exact kk x
theorem X_zv {v : Int32} (kk : v = 0 ∨ v = 1 → GX l G M Φ k n pc L st h F) : GX l G M Φ k n pc L st h ((g_z v).bind fun _ => F) := by
  unfold g_z
  by_cases hc : v = 0 ∨ v = 1
  · rw [if_pos hc]; exact kk hc
  · rw [if_neg hc]; exact X_none
theorem X_qld9 {a t : Nat} {i : Int32} {K : Option Nat → Option α} (hd : g_lk (m_code M) pc = some (.aaload, nx, x1, x2)) (hn : nx = pc + 1) (ht : t = 6 ∨ t = 7 ∨ t = 8 ∨ t = 9) (kk : ∀ v, GX l G M Φ k n nx L (va_rf v :: st) h (K v)) : GX l G M Φ k n pc L (.int i :: .ref a :: st) h ((g_qld h a t i).bind K) := by
  refine X_bind fun v hv => ?_
  unfold g_qld at hv
  cases hx : g_aQ h a t with
  | none => rw [hx] at hv; cases hv
  | some x =>
    obtain ⟨m0, f⟩ := x
    rw [hx] at hv
    simp only [Option.bind_some, Option.map_eq_some_iff] at hv
    obtain ⟨j, hj, rfl⟩ := hv
    obtain ⟨hin, rfl⟩ := g_ix_some hj
    intro r hr p e s m args below meth c H locs A B hl hM hS
    have hg := g_dec B.2.2.2.2.2.2.2.2.2 hd hn
    have q := kk _ r hr p e s m args below meth c H locs A B hl hM hS
    rw [hn] at q
    rcases ht with rfl | rfl | rfl | rfl
    · exact g_qldW B hM (g_aQ_some hx) rfl rfl hin hg q
    · exact g_qldW B hM (g_aQ_some hx) rfl rfl hin hg q
    · exact g_qldW B hM (g_aQ_some hx) rfl rfl hin hg q
    · exact g_qldW B hM (g_aQ_some hx) rfl rfl hin hg q
end GXY
def g_rU (h : gH) : Unit → Option Value × gH := fun _ => (none, h)
/-- what is told of the law's run: as long as Q holds of its start, and where it answers 1 -/
def g_phS (Q : State → Array Value → List Frame → Prop) (Z : State → Prop) : Int32 × gH → Method → Code → State → Array Value → List Frame → State → Prop := fun r _ _ s args below t => Q s args below → r.1 = 1 → Z t
/-- the script lies at b -/
def g_scr (G : gG) (Q : State → Array Value → List Frame → Prop) (b N : Nat) (xs : Nat → Int32) : Prop := ∀ s args below, Q s args below → va_X b N xs s s.heap ∧ b < s.heap.size ∧ b < g_b G
section LAW
variable {l : Launch} {G : gG} {Q : State → Array Value → List Frame → Prop} {Z : State → Prop} {M : gMt} {k n pc nx x1 x2 : Nat} {L : List (Option Value)} {st : List Value} {h : gH} {F : Option (Int32 × gH)} {b N : Nat} {xs : Nat → Int32}
theorem X_sldB {j : Int32} {K : Int32 → Option (Int32 × gH)} (hX : g_scr G Q b N xs) (hd : g_lk (m_code M) pc = some (.iaload, nx, x1, x2)) (hn : nx = pc + 1) (kk : ∀ v, GX l G M (g_phS Q Z) k n nx L (.int v :: st) h (K v)) : GX l G M (g_phS Q Z) k n pc L (.int j :: .ref b :: st) h (((g_ix j N).map xs).bind K) := by
  refine X_bind fun v hv => ?_
  obtain ⟨i, hi, rfl⟩ := Option.map_eq_some_iff.mp hv
  obtain ⟨hin, rfl⟩ := g_ix_some hi
  intro r hr p e s m args below meth c H locs A B hl hM hS
  have hg := g_dec B.2.2.2.2.2.2.2.2.2 hd hn
  have q := kk _ r hr p e s m args below meth c H locs A B hl hM hS
  by_cases hQ : Q s args below
  · obtain ⟨h1, h2, h3⟩ := hX s args below hQ
    refine va_sld B.1 B.2.1 h1 h2 (Nat.not_le.mpr h3) hS hin hg ?_
    rw [hn] at q
    exact q
  · intro T hT X
    exact ⟨_, Steps.refl _, fun h => absurd h hQ⟩
theorem X_sln (hX : g_scr G Q b N xs) (hd : g_lk (m_code M) pc = some (.arraylength, nx, x1, x2)) (hn : nx = pc + 1) (kk : GX l G M (g_phS Q Z) k n nx L (.int (Int32.ofNat N) :: st) h F) : GX l G M (g_phS Q Z) k n pc L (.ref b :: st) h F := by
  intro r hr p e s m args below meth c H locs A B hl hM hS
  have hg := g_dec B.2.2.2.2.2.2.2.2.2 hd hn
  have q := kk r hr p e s m args below meth c H locs A B hl hM hS
  by_cases hQ : Q s args below
  · obtain ⟨h1, h2, h3⟩ := hX s args below hQ
    refine va_slen B.1 B.2.1 h1 h2 (Nat.not_le.mpr h3) hS hg ?_
    rw [hn] at q
    exact q
  · intro T hT X
    exact ⟨_, Steps.refl _, fun h => absurd h hQ⟩
end LAW
