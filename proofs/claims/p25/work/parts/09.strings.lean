/-! String constants: the members of String that the claim calls, over the five words of the grammar -/
def M_J3_checkIndex_8e157 : gMt := (yJ3_checkIndex_8e157, cJ3_checkIndex_8e157, 3, (some .int), { frames := 0, cells := 0, slots := 0, locals := 0 }, [(0, .iload_n 0, 1, 0, 0), (1, .ifCond .lt 8, 4, 9, 0), (4, .iload_n 0, 5, 0, 0), (5, .iload_n 1, 6, 0, 0), (6, .if_icmp .lt 10, 9, 16, 0), (9, .aload_n 2, 10, 0, 0), (10, .iload_n 0, 11, 0, 0), (11, .iload_n 1, 12, 0, 0), (12, .invokestatic 95, 15, 0, 0), (15, .athrow, 16, 0, 0), (16, .iload_n 0, 17, 0, 0), (17, .ireturn, 18, 0, 0)], [])
theorem ok_J3_checkIndex_8e157 : g_ok M_J3_checkIndex_8e157 := by
  show (m_code M_J3_checkIndex_8e157).all (g_ent M_J3_checkIndex_8e157) = true
  decide +kernel
def M_J0_checkIndex_df160 : gMt := (yJ0_checkIndex_df160, cJ0_checkIndex_df160, 2, none, { frames := 1, cells := 0, slots := 0, locals := 22 }, [(0, .iload_n 0, 1, 0, 0), (1, .iload_n 1, 2, 0, 0), (2, .getstatic 1053, 5, 0, 0), (5, .invokestatic 1059, 8, 0, 0), (8, .pop, 9, 0, 0), (9, .return_, 10, 0, 0)], [])
theorem ok_J0_checkIndex_df160 : g_ok M_J0_checkIndex_df160 := by
  show (m_code M_J0_checkIndex_df160).all (g_ent M_J0_checkIndex_df160) = true
  decide +kernel
def M_J1_charAt_3b067 : gMt := (yJ1_charAt_3b067, cJ1_charAt_3b067, 2, (some .char), { frames := 2, cells := 0, slots := 0, locals := 43 }, [(0, .iload_n 1, 1, 0, 0), (1, .aload_n 0, 2, 0, 0), (2, .arraylength, 3, 0, 0), (3, .invokestatic 9, 6, 0, 0), (6, .aload_n 0, 7, 0, 0), (7, .iload_n 1, 8, 0, 0), (8, .baload, 9, 0, 0), (9, .sipush 255, 12, 0, 0), (12, .iand, 13, 0, 0), (13, .i2c, 14, 0, 0), (14, .ireturn, 15, 0, 0)], [])
theorem ok_J1_charAt_3b067 : g_ok M_J1_charAt_3b067 := by
  show (m_code M_J1_charAt_3b067).all (g_ent M_J1_charAt_3b067) = true
  decide +kernel
def M_J0_isLatin1_aae02 : gMt := (yJ0_isLatin1_aae02, cJ0_isLatin1_aae02, 1, (some .boolean), { frames := 0, cells := 0, slots := 0, locals := 0 }, [(0, .getstatic 38, 3, 0, 0), (3, .ifCond .eq 14, 6, 17, 0), (6, .aload_n 0, 7, 0, 0), (10, .ifCond .ne 7, 13, 17, 0), (13, .iconst 1, 14, 0, 0), (14, .goto 4, 17, 18, 0), (17, .iconst 0, 18, 0, 0), (18, .ireturn, 19, 0, 0)], [])
theorem ok_J0_isLatin1_aae02 : g_ok M_J0_isLatin1_aae02 := by
  show (m_code M_J0_isLatin1_aae02).all (g_ent M_J0_isLatin1_aae02) = true
  decide +kernel
def M_J0_coder_7d493 : gMt := (yJ0_coder_7d493, cJ0_coder_7d493, 1, (some .byte), { frames := 0, cells := 0, slots := 0, locals := 0 }, [(0, .getstatic 38, 3, 0, 0), (3, .ifCond .eq 10, 6, 13, 0), (6, .aload_n 0, 7, 0, 0), (10, .goto 4, 13, 14, 0), (13, .iconst 1, 14, 0, 0), (14, .ireturn, 15, 0, 0)], [])
theorem ok_J0_coder_7d493 : g_ok M_J0_coder_7d493 := by
  show (m_code M_J0_coder_7d493).all (g_ent M_J0_coder_7d493) = true
  decide +kernel
def M_J0_length_8abf5 : gMt := (yJ0_length_8abf5, cJ0_length_8abf5, 1, (some .int), { frames := 1, cells := 0, slots := 0, locals := 20 }, [(0, .aload_n 0, 1, 0, 0), (4, .arraylength, 5, 0, 0), (5, .aload_n 0, 6, 0, 0), (6, .invokevirtual 335, 9, 0, 0), (9, .ishr, 10, 0, 0), (10, .ireturn, 11, 0, 0)], [])
theorem ok_J0_length_8abf5 : g_ok M_J0_length_8abf5 := by
  show (m_code M_J0_length_8abf5).all (g_ent M_J0_length_8abf5) = true
  decide +kernel
def M_J0_charAt_5068e : gMt := (yJ0_charAt_5068e, cJ0_charAt_5068e, 2, (some .char), { frames := 3, cells := 0, slots := 0, locals := 64 }, [(0, .aload_n 0, 1, 0, 0), (1, .invokevirtual 492, 4, 0, 0), (4, .ifCond .eq 12, 7, 16, 0), (7, .aload_n 0, 8, 0, 0), (11, .iload_n 1, 12, 0, 0), (12, .invokestatic 495, 15, 0, 0), (15, .ireturn, 16, 0, 0), (16, .aload_n 0, 17, 0, 0), (20, .iload_n 1, 21, 0, 0), (21, .invokestatic 498, 24, 0, 0), (24, .ireturn, 25, 0, 0)], [])
theorem ok_J0_charAt_5068e : g_ok M_J0_charAt_5068e := by
  show (m_code M_J0_charAt_5068e).all (g_ent M_J0_charAt_5068e) = true
  decide +kernel
section GXK
variable {α : Type} {l : Launch} {G : gG} {M : gMt} {Φ : α → Method → Code → State → Array Value → List Frame → State → Prop} {k n pc nx x1 x2 : Nat} {L : List (Option Value)} {st stk : List Value} {h : gH} {F : Option α}
theorem X_gstat {idx : Nat} {C nm ds : String} {v : Value} (hd : g_lk (m_code M) pc = some (.getstatic idx, nx, x1, x2)) (hn : nx = pc + 3) (hw : Cond.fieldLink (m_y M).cls idx C nm ds ∈ lw_tbl) (hZ : ∀ s : State, g_K G s s.heap → va_Z C nm ds v (g_A G) s s.heap) (kk : GX l G M Φ k n nx L (v :: st) h F) : GX l G M Φ k n pc L st h F := by
  intro r hr p e s m args below meth c H locs A B hl hM hS
  have hg := g_dec B.2.2.2.2.2.2.2.2.2 hd hn
  have q := kk r hr p e s m args below meth c H locs A B hl hM hS
  rw [hn] at q
  exact va_gets B.1 B.2.1 (hZ s B.2.2.2.2.2.2.2.1) hS B.2.2.2.2.2.1 (B.2.2.2.2.2.2.1 _ hw rfl) (fun _ h => h) hg q
theorem X_gstatQ {idx : Nat} {C nm ds : String} (hd : g_lk (m_code M) pc = some (.getstatic idx, nx, x1, x2)) (hn : nx = pc + 3) (hw : Cond.fieldLink (m_y M).cls idx C nm ds ∈ lw_tbl) (hZ : ∀ s : State, g_K G s s.heap → va_Zq C nm ds (g_A G) s s.heap) (kk : ∀ x, GX l G M Φ k n nx L (va_rf x :: st) h F) : GX l G M Φ k n pc L st h F := by
  intro r hr p e s m args below meth c H locs A B hl hM hS
  have hg := g_dec B.2.2.2.2.2.2.2.2.2 hd hn
  rcases hZ s B.2.2.2.2.2.2.2.1 with hz | ⟨t, hz⟩
  · have q := kk none r hr p e s m args below meth c H locs A B hl hM hS
    rw [hn] at q
    exact va_gets B.1 B.2.1 hz hS B.2.2.2.2.2.1 (B.2.2.2.2.2.2.1 _ hw rfl) (fun _ h => h) hg q
  · have q := kk (some t) r hr p e s m args below meth c H locs A B hl hM hS
    rw [hn] at q
    exact va_gets B.1 B.2.1 hz hS B.2.2.2.2.2.1 (B.2.2.2.2.2.2.1 _ hw rfl) (fun _ h => h) hg q
theorem X_sval {idx i : Nat} (hg : decode (m_cc M) pc = .ok (.getfield idx, 3)) (hi : i < 24) (hw : Cond.fieldLink (m_y M).cls idx "java/lang/String" "value" "[B" ∈ lw_tbl) (kk : GX l G M Φ k n (pc + 3) L (.ref (g_aV G i) :: st) h F) : GX l G M Φ k n pc L (.ref (g_aK G i) :: st) h F := by
  intro r hr p e s m args below meth c H locs A B hl hM hS
  have q := kk r hr p e s m args below meth c H locs A B hl hM hS
  exact vk_getf B.1 B.2.1 (B.2.2.2.2.2.2.2.1.2.2.2.1.1 i hi).2.2.1 hS B.2.2.2.2.2.1 (B.2.2.2.2.2.2.1 _ hw rfl) (fun _ h => h) hg q
theorem X_scod {idx i : Nat} (hg : decode (m_cc M) pc = .ok (.getfield idx, 3)) (hi : i < 24) (hw : Cond.fieldLink (m_y M).cls idx "java/lang/String" "coder" "B" ∈ lw_tbl) (kk : GX l G M Φ k n (pc + 3) L (.int 0 :: st) h F) : GX l G M Φ k n pc L (.ref (g_aK G i) :: st) h F := by
  intro r hr p e s m args below meth c H locs A B hl hM hS
  have q := kk r hr p e s m args below meth c H locs A B hl hM hS
  exact vk_getf B.1 B.2.1 (B.2.2.2.2.2.2.2.1.2.2.2.1.1 i hi).2.1 hS B.2.2.2.2.2.1 (B.2.2.2.2.2.2.1 _ hw rfl) (fun _ h => h) hg q
theorem X_slna {i : Nat} (hd : g_lk (m_code M) pc = some (.arraylength, nx, x1, x2)) (hn : nx = pc + 1) (hi : i < 24) (kk : GX l G M Φ k n nx L (.int (Int32.ofNat (g_len.getD i 0)) :: st) h F) : GX l G M Φ k n pc L (.ref (g_aV G i) :: st) h F := by
  intro r hr p e s m args below meth c H locs A B hl hM hS
  have hg := g_dec B.2.2.2.2.2.2.2.2.2 hd hn
  have q := kk r hr p e s m args below meth c H locs A B hl hM hS
  rw [hn] at q
  exact va_tlen B.1 B.2.1 (B.2.2.2.2.2.2.2.1.2.2.2.1.1 i hi).2.2.2 hS rfl hg q
theorem X_sbld {i : Nat} {j : Int32} (hd : g_lk (m_code M) pc = some (.baload, nx, x1, x2)) (hn : nx = pc + 1) (hi : i < 24) (hin : vp_in j (g_len.getD i 0)) (kk : GX l G M Φ k n nx L (.int ((g_byt.getD i []).getD j.toNatClampNeg 0) :: st) h F) : GX l G M Φ k n pc L (.int j :: .ref (g_aV G i) :: st) h F := by
  intro r hr p e s m args below meth c H locs A B hl hM hS
  have hg := g_dec B.2.2.2.2.2.2.2.2.2 hd hn
  have q := kk r hr p e s m args below meth c H locs A B hl hM hS
  rw [hn] at q
  exact va_tb B.1 B.2.1 (B.2.2.2.2.2.2.2.1.2.2.2.1.1 i hi).2.2.2 hS hin rfl hg q
theorem X_i2c {x v : Int32} (hd : g_lk (m_code M) pc = some (.i2c, nx, x1, x2)) (hn : nx = pc + 1) (hv : (x.toUInt32 % 65536).toInt32 = v) (kk : GX l G M Φ k n nx L (.int v :: st) h F) : GX l G M Φ k n pc L (.int x :: st) h F := by
  intro r hr p e s m args below meth c H locs A B hl hM hS
  have hg := g_dec B.2.2.2.2.2.2.2.2.2 hd hn
  have q := kk r hr p e s m args below meth c H locs A B hl hM hS
  rw [hn] at q
  exact lv_i2c B.1 B.2.1 hg hv q
/-- a call of a member of String on one of the five words -/
theorem X_callK {M' : gMt} {idx nA i : Nat} {As : List Value} {o : Option Value} {h1 : gH} (hd : g_lk (m_code M) pc = some (.invokevirtual idx, nx, x1, x2)) (hn : nx = pc + 3) (hs : g_site M M' (.invokevirtual idx) nA = true) (hlen : As.length = nA) (hstk : stk = As.reverse ++ .ref (g_aK G i) :: st) (hst : Nat.ble ((st.map fun v => v.category).sum) 8 = true) (hi : i < 24) (hcn : (m_y M').cls = "java/lang/String") (hC : Ct l G M' (.ref (g_aK G i) :: As) h o h1) (hk : Nat.ble (k + (m_R M').cells) (m_R M).cells = true) (hsl : Nat.ble (n + (m_R M').slots) (m_R M).slots = true)
    (kk : GX l G M Φ (k + (m_R M').cells) (n + (m_R M').slots) nx L (o.toList ++ st) h1 F) : GX l G M Φ k n pc L stk h F := by
  intro r hr p e s m args below meth c H locs A B hl hM hS
  have hg := g_dec B.2.2.2.2.2.2.2.2.2 hd hn
  unfold g_site at hs
  simp only [Bool.and_eq_true, decide_eq_true_eq] at hs
  obtain ⟨⟨⟨⟨⟨⟨⟨s1, s2⟩, s3⟩, s4⟩, s5⟩, s6⟩, s7⟩, ⟨s8, s10⟩, s9⟩ := hs
  have hts : ∀ w ∈ g_good, w.before args s = true := fun w hw => B.2.2.2.2.2.2.1 w (List.mem_filter.mp hw).1 (List.mem_filter.mp hw).2
  have ok : ∀ w ∈ lw_tbl, goodWord w = true → w.before args s = true := B.2.2.2.2.2.2.1
  have cb := callB_of (R := m_R M) (mc := (m_R M').cells) (ms := (m_R M').slots) (rm := m_R M') nA hts (g_goodIn s1) (ws' := g_good) rfl rfl rfl (ok _ s2 rfl) (ok _ s9 rfl) ⟨s3, s4, s5⟩ ⟨Nat.le_of_ble_eq_true s6, Nat.le_of_ble_eq_true s7⟩
  have hrv : ∃ cell : Cell, H[g_aK G i]? = some cell ∧ cell.vm.isStatics = false ∧ s.vm.findClass "java/lang/String" = some cell.cls := by
    obtain ⟨cell, r1, r2, r3, -⟩ := (B.2.2.2.2.2.2.2.1.2.2.2.1.1 i hi).1.kept hS.2.1
    exact ⟨cell, r1, r2, r3⟩
  rw [← hcn] at hrv
  have hrun := va_runV (As := As) (rest := st) (C := (m_y M').cls) (b := g_aK G i) (H := H) (locs := locs) (cells := k) (slots := n) (below := below) (meth := meth) (e := e) (g := F0 m pc A stk) (cc := m_cc M) (nL := m_nL M) (index := idx) (Ts := g_good) (own := (m_y M).cls) ⟨B.1, B.2.1, B.2.2.1, B.2.2.2.2.2.1, hts⟩ hC ⟨cb, ok _ s8 rfl, ok _ s10 rfl⟩ ⟨g_blind, hrv, fun U hU hW => ⟨rfl, by rw [hU]; exact (B.2.2.2.2.2.2.2.1.warm hW (fun a ha hna => hS.2.1 a ha hna)), by rw [hU]; exact hM⟩⟩ rfl hlen hl.1 hstk (lv_room (Nat.le_of_ble_eq_true hst)) hg ⟨Nat.le_of_ble_eq_true hk, Nat.le_of_ble_eq_true hsl⟩
  intro T hT X
  obtain ⟨v, st₀, t, T', L1, h0, X', hL, e1, e2, ⟨hv, hM', hz, hq⟩, stp⟩ := hrun T hT X
  cases hv
  rw [h0] at hz hq
  have q := kk r hr p e s m args below meth c T'.heap (locs ++ L1) A B hl (by rw [e1]; exact hM') ⟨Nat.le_trans hS.1 (by rw [e1]; exact hz), fun q h1 h2 => by
      have hqb : q < g_b G := Nat.not_le.mp h2
      rw [e1, hq q hqb]; exact hS.2.1 q h1 h2, fun q hq => by
      rcases List.mem_append.mp hq with h | h
      · exact hS.2.2 q h
      · exact hL q h⟩
  rw [hn] at q
  obtain ⟨t2, a1, b1⟩ := q T' rfl X'
  exact ⟨t2, stp t2 a1, b1⟩
end GXK
theorem g_zCS {G : gG} (s : State) (h : g_K G s s.heap) : va_Z "java/lang/String" "COMPACT_STRINGS" "Z" (.int 1) (g_A G) s s.heap := h.2.2.2.2.2.2.1
theorem g_zSF {G : gG} (s : State) (h : g_K G s s.heap) : va_Zq "jdk/internal/util/Preconditions" "SIOOBE_FORMATTER" "Ljava/util/function/BiFunction;" (g_A G) s s.heap := h.2.2.2.2.2.2.2.1
theorem ct_J3_checkIndex_8e157 {l : Launch} {G : gG} {h : gH} {a b : Int32} {x : Option Nat} (h1 : ¬ a < 0) (h2 : a < b) : Ct l G M_J3_checkIndex_8e157 [.int a, .int b, va_rf x] h (some (.int a)) h := by
  refine Ct_of (L := [some (.int a), some (.int b), some (va_rf x)]) ok_J3_checkIndex_8e157 (by decide +kernel) (by cases x <;> rfl) rfl (by cases x <;> rfl) (ρ := g_rI h) (F := some a) ?_ rfl rfl
  refine X_iload_n rfl rfl rfl ?_
  refine X_if_lt rfl rfl (fun c => absurd c h1) (fun _ => ?_)
  refine X_iload_n rfl rfl rfl ?_
  refine X_iload_n rfl rfl rfl ?_
  refine X_icmp_lt rfl rfl (fun _ => ?_) (fun c => absurd h2 c)
  refine X_iload_n rfl rfl rfl ?_
  exact X_iret rfl rfl rfl rfl rfl rfl rfl
theorem ct_J0_checkIndex_df160 {l : Launch} {G : gG} {h : gH} {a b : Int32} (h1 : ¬ a < 0) (h2 : a < b) : Ct l G M_J0_checkIndex_df160 [.int a, .int b] h none h := by
  refine Ct_of (L := [some (.int a), some (.int b)]) ok_J0_checkIndex_df160 (by decide +kernel) rfl rfl rfl (ρ := g_wU) (F := some h) ?_ rfl rfl
  refine X_iload_n rfl rfl rfl ?_
  refine X_iload_n rfl rfl rfl ?_
  refine X_gstatQ (C := "jdk/internal/util/Preconditions") (nm := "SIOOBE_FORMATTER") (ds := "Ljava/util/function/BiFunction;") rfl rfl (by decide +kernel) g_zSF (fun x => ?_)
  refine X_callS (M' := M_J3_checkIndex_8e157) (nA := 3) (As := [.int a, .int b, va_rf x]) (st := []) rfl rfl (by decide +kernel) rfl rfl rfl (ct_J3_checkIndex_8e157 h1 h2) rfl rfl ?_
  refine X_pop rfl rfl rfl ?_
  exact X_vret rfl rfl rfl rfl rfl rfl
theorem g_byt255 : ∀ i, i < 24 → ∀ j, j < g_len.getD i 0 → ((((g_byt.getD i []).getD j 0) &&& 255).toUInt32 % 65536).toInt32 = (g_byt.getD i []).getD j 0 ∧ narrow .char (.int ((g_byt.getD i []).getD j 0)) = .int ((g_byt.getD i []).getD j 0) := by decide +kernel
theorem g_lenS : ∀ i, i < 24 → g_len.getD i 0 < 2 ^ 31 := by decide +kernel
theorem ct_J1_charAt_3b067 {l : Launch} {G : gG} {h : gH} {i : Nat} {j : Int32} (hi : i < 24) (hin : vp_in j (g_len.getD i 0)) : Ct l G M_J1_charAt_3b067 [.ref (g_aV G i), .int j] h (some (.int ((g_byt.getD i []).getD j.toNatClampNeg 0))) h := by
  obtain ⟨j0, hj0, rfl⟩ := vp_in_of hin (g_lenS i hi)
  have hl := g_lenS i hi
  have hcl : (nI j0).toNatClampNeg = j0 := nI_clamp (by omega)
  obtain ⟨e1, e2⟩ := g_byt255 i hi j0 hj0
  refine Ct_of (L := [some (.ref (g_aV G i)), some (.int (nI j0))]) ok_J1_charAt_3b067 (by decide +kernel) rfl rfl rfl (ρ := g_rI h) (F := some ((g_byt.getD i []).getD (nI j0).toNatClampNeg 0)) ?_ rfl rfl
  refine X_iload_n rfl rfl rfl ?_
  refine X_aload_n rfl rfl rfl ?_
  refine X_slna rfl rfl hi ?_
  refine X_callS (M' := M_J0_checkIndex_df160) (nA := 2) (As := [.int (nI j0), .int (Int32.ofNat (g_len.getD i 0))]) (st := []) rfl rfl (by decide +kernel) rfl rfl rfl (ct_J0_checkIndex_df160 (nI_pos (by omega)) (nI_lt hj0 hl)) rfl rfl ?_
  refine X_aload_n rfl rfl rfl ?_
  refine X_iload_n rfl rfl rfl ?_
  refine X_sbld rfl rfl hi hin ?_
  refine X_sipush (v := 255) rfl rfl (by decide) ?_
  refine X_iand rfl rfl ?_
  refine X_i2c (v := (g_byt.getD i []).getD (nI j0).toNatClampNeg 0) rfl rfl (by rw [hcl]; exact e1) ?_
  exact X_iret rfl rfl rfl (by rw [hcl]; exact e2) rfl rfl rfl
theorem ct_J0_isLatin1_aae02 {l : Launch} {G : gG} {h : gH} {i : Nat} (hi : i < 24) : Ct l G M_J0_isLatin1_aae02 [.ref (g_aK G i)] h (some (.int 1)) h := by
  refine Ct_of (L := [some (.ref (g_aK G i))]) ok_J0_isLatin1_aae02 (by decide +kernel) rfl rfl rfl (ρ := g_rI h) (F := some 1) ?_ rfl rfl
  refine X_gstat (C := "java/lang/String") (nm := "COMPACT_STRINGS") (ds := "Z") (v := .int 1) rfl rfl (by decide +kernel) g_zCS ?_
  refine X_if_eq rfl rfl (fun c => absurd c (by decide)) (fun _ => ?_)
  refine X_aload_n rfl rfl rfl ?_
  refine X_scod (idx := 15) (by decide +kernel) hi (by decide +kernel) ?_
  refine X_if_ne rfl rfl (fun c => absurd rfl c) (fun _ => ?_)
  refine X_iconst (v := 1) rfl rfl (by decide) ?_
  refine X_goto rfl rfl ?_
  exact X_iret rfl rfl rfl rfl rfl rfl rfl
theorem ct_J0_coder_7d493 {l : Launch} {G : gG} {h : gH} {i : Nat} (hi : i < 24) : Ct l G M_J0_coder_7d493 [.ref (g_aK G i)] h (some (.int 0)) h := by
  refine Ct_of (L := [some (.ref (g_aK G i))]) ok_J0_coder_7d493 (by decide +kernel) rfl rfl rfl (ρ := g_rI h) (F := some 0) ?_ rfl rfl
  refine X_gstat (C := "java/lang/String") (nm := "COMPACT_STRINGS") (ds := "Z") (v := .int 1) rfl rfl (by decide +kernel) g_zCS ?_
  refine X_if_eq rfl rfl (fun c => absurd c (by decide)) (fun _ => ?_)
  refine X_aload_n rfl rfl rfl ?_
  refine X_scod (idx := 15) (by decide +kernel) hi (by decide +kernel) ?_
  refine X_goto rfl rfl ?_
  exact X_iret rfl rfl rfl rfl rfl rfl rfl
theorem ct_J0_length_8abf5 {l : Launch} {G : gG} {h : gH} {i : Nat} (hi : i < 24) : Ct l G M_J0_length_8abf5 [.ref (g_aK G i)] h (some (.int (Int32.ofNat (g_len.getD i 0)))) h := by
  refine Ct_of (L := [some (.ref (g_aK G i))]) ok_J0_length_8abf5 (by decide +kernel) rfl rfl rfl (ρ := g_rI h) (F := some (Int32.ofNat (g_len.getD i 0))) ?_ rfl rfl
  refine X_aload_n rfl rfl rfl ?_
  refine X_sval (idx := 9) (by decide +kernel) hi (by decide +kernel) ?_
  refine X_slna rfl rfl hi ?_
  refine X_aload_n rfl rfl rfl ?_
  refine X_callK (M' := M_J0_coder_7d493) (nA := 0) (i := i) (As := []) (st := [.int (Int32.ofNat (g_len.getD i 0))]) rfl rfl (by decide +kernel) rfl rfl rfl hi rfl (ct_J0_coder_7d493 hi) rfl rfl ?_
  refine X_ishr (v := Int32.ofNat (g_len.getD i 0)) rfl rfl (sc_shr0 (g_lenS i hi)) ?_
  exact X_iret rfl rfl rfl rfl rfl rfl rfl
theorem ct_J0_charAt_5068e {l : Launch} {G : gG} {h : gH} {i : Nat} {j : Int32} (hi : i < 24) (hin : vp_in j (g_len.getD i 0)) : Ct l G M_J0_charAt_5068e [.ref (g_aK G i), .int j] h (some (.int ((g_byt.getD i []).getD j.toNatClampNeg 0))) h := by
  have hnar : narrow .char (.int ((g_byt.getD i []).getD j.toNatClampNeg 0)) = .int ((g_byt.getD i []).getD j.toNatClampNeg 0) := by
    obtain ⟨j0, hj0, rfl⟩ := vp_in_of hin (g_lenS i hi)
    have hl := g_lenS i hi
    rw [nI_clamp (by omega)]
    exact (g_byt255 i hi j0 hj0).2
  refine Ct_of (L := [some (.ref (g_aK G i)), some (.int j)]) ok_J0_charAt_5068e (by decide +kernel) rfl rfl rfl (ρ := g_rI h) (F := some ((g_byt.getD i []).getD j.toNatClampNeg 0)) ?_ rfl rfl
  refine X_aload_n rfl rfl rfl ?_
  refine X_callK (M' := M_J0_isLatin1_aae02) (nA := 0) (i := i) (As := []) (st := []) rfl rfl (by decide +kernel) rfl rfl rfl hi rfl (ct_J0_isLatin1_aae02 hi) rfl rfl ?_
  refine X_if_eq rfl rfl (fun c => absurd c (by decide)) (fun _ => ?_)
  refine X_aload_n rfl rfl rfl ?_
  refine X_sval (idx := 9) (by decide +kernel) hi (by decide +kernel) ?_
  refine X_iload_n rfl rfl rfl ?_
  refine X_callS (M' := M_J1_charAt_3b067) (nA := 2) (As := [.ref (g_aV G i), .int j]) (st := []) rfl rfl (by decide +kernel) rfl rfl rfl (ct_J1_charAt_3b067 hi hin) rfl rfl ?_
  exact X_iret rfl rfl rfl hnar rfl rfl rfl
/-- the length of a word of the grammar, a sign of it -/
def g_slen (i : Nat) : Option Int32 := if i < 24 then some (Int32.ofNat (g_len.getD i 0)) else none
def g_sch (i : Nat) (j : Int32) : Option Int32 := if i < 24 then (if j < 0 ∨ g_len.getD i 0 ≤ j.toNatClampNeg then none else some ((g_byt.getD i []).getD j.toNatClampNeg 0)) else none
section GXK2
variable {α : Type} {l : Launch} {G : gG} {M : gMt} {Φ : α → Method → Code → State → Array Value → List Frame → State → Prop} {k n pc nx x1 x2 : Nat} {L : List (Option Value)} {st stk : List Value} {h : gH} {F : Option α}
theorem X_slen {idx i : Nat} {K : Int32 → Option α} (hd : g_lk (m_code M) pc = some (.invokevirtual idx, nx, x1, x2)) (hn : nx = pc + 3) (hs : g_site M M_J0_length_8abf5 (.invokevirtual idx) 0 = true) (hst : Nat.ble ((st.map fun v => v.category).sum) 8 = true) (hk : Nat.ble k (m_R M).cells = true) (hsl : Nat.ble n (m_R M).slots = true) (kk : ∀ v, GX l G M Φ k n nx L (.int v :: st) h (K v)) : GX l G M Φ k n pc L (.ref (g_aK G i) :: st) h ((g_slen i).bind K) := by
  unfold g_slen
  by_cases hi : i < 24
  · rw [if_pos hi]
    exact X_callK (As := []) hd hn hs rfl rfl hst hi rfl (ct_J0_length_8abf5 hi) hk hsl (kk _)
  · rw [if_neg hi]; exact X_none
theorem X_sch {idx i : Nat} {j : Int32} {K : Int32 → Option α} (hd : g_lk (m_code M) pc = some (.invokevirtual idx, nx, x1, x2)) (hn : nx = pc + 3) (hs : g_site M M_J0_charAt_5068e (.invokevirtual idx) 1 = true) (hst : Nat.ble ((st.map fun v => v.category).sum) 8 = true) (hk : Nat.ble k (m_R M).cells = true) (hsl : Nat.ble n (m_R M).slots = true) (kk : ∀ v, GX l G M Φ k n nx L (.int v :: st) h (K v)) : GX l G M Φ k n pc L (.int j :: .ref (g_aK G i) :: st) h ((g_sch i j).bind K) := by
  unfold g_sch
  by_cases hi : i < 24
  · rw [if_pos hi]
    by_cases hj : j < 0 ∨ g_len.getD i 0 ≤ j.toNatClampNeg
    · rw [if_pos hj]; exact X_none
    · rw [if_neg hj]
      exact X_callK (As := [.int j]) hd hn hs rfl rfl hst hi rfl (ct_J0_charAt_5068e hi hj) hk hsl (kk _)
  · rw [if_neg hi]; exact X_none
end GXK2
