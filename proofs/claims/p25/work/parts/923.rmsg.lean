/-! randomLine's messages -/
section QUO
variable {G : gG} {a b : Nat} {H : gH}
theorem only2.wf {s v : Nat} {X X' : gH} (o : only2 s v X X') (w : wf X) (hs : s < X.1) (hv : v < X.1) : wf X' := fun q c e => by
  rw [o.1]
  by_cases c1 : q = s
  · omega
  · by_cases c2 : q = v
    · omega
    · rw [o.2 q c1 c2] at e
      exact w q c e
/-- a space, a word and a semicolon as a new string -/
theorem quote_c (cs : csG G b) (w : wf H) (l : low b H) (hb : b ≤ H.1) {x : Nat} {M : List Nat} (wa : wordAt H x M) (sm : smL M) (m11 : M.length ≤ 11) : ∃ X1 X2 X3 X4 H' y, f_T4_init_da8c8 G (g_add H (.inr (13, g_dfl 13))) H.1 = some X1 ∧ g_is X1 H.1 13 = true ∧ f_T4_append_15ec4 G X1 H.1 (g_aK G 21) = some (H.1, X2) ∧ g_is X2 H.1 13 = true ∧ f_T4_append_15ec4 G X2 H.1 x = some (H.1, X3) ∧ g_is X3 H.1 13 = true ∧ f_T4_append_15ec4 G X3 H.1 (g_aK G 22) = some (H.1, X4) ∧ g_is X4 H.1 13 = true ∧ f_T4_toString_0e30d G X4 H.1 = some (y, H') ∧ wordAt H' y ([32] ++ (M ++ [59])) ∧ H.1 ≤ y ∧ eff (fun _ => False) H H' := by
  obtain ⟨v, g, ex, ev, xv, eg⟩ := wa
  have xl := w _ _ ex
  have vl := w _ _ ev
  obtain ⟨X1, i1, i2, i3⟩ := sb_new (G := G) H
  have z1 : X1.1 = H.1 + 2 := by rw [i2]; rfl
  have w1 : wf X1 := by rw [i2]; exact wf_ext w _
  have o1 : ∀ q, q < H.1 → X1.2 q = H.2 q := fun q hq => by rw [i2]; exact ext_out H _ (Or.inl hq)
  have l1 : low b X1 := fun q hq => (o1 q (by omega)).trans (l q hq)
  obtain ⟨c21, -, c21b, c21c⟩ := wS_tab 21 (by decide) (Or.inr (by decide))
  obtain ⟨c22, -, c22b, c22c⟩ := wS_tab 22 (by decide) (Or.inr (by decide))
  have t21 := con_t cs l1 (i := 21) (by decide) (Or.inr (by decide))
  rw [← c21] at t21
  obtain ⟨X2, j1, j2, j3⟩ := sb_str (M := wS 21) i3 t21 rfl c21b c21c (by show 0 + 1 ≤ 16; decide)
  have z2 : X2.1 = H.1 + 2 := j3.1.trans z1
  have w2 := j3.wf w1 (by omega) (by omega)
  have o2 : ∀ q, q < H.1 → X2.2 q = H.2 q := fun q hq => (j3.2 q (by omega) (by omega)).trans (o1 q hq)
  have tw : txt G X2 x M.length g := txt_dyn ((o2 x xl).trans ex) ((o2 v vl).trans ev)
  have n1 : ([] ++ wS 21 : List Nat).length = 1 := rfl
  obtain ⟨X3, k1, k2, k3⟩ := sb_str (M := M) j2 tw rfl eg sm.as (by rw [n1]; omega)
  have z3 : X3.1 = H.1 + 2 := k3.1.trans z2
  have w3 := k3.wf w2 (by omega) (by omega)
  have o3 : ∀ q, q < H.1 → X3.2 q = H.2 q := fun q hq => (k3.2 q (by omega) (by omega)).trans (o2 q hq)
  have l3 : low b X3 := fun q hq => (o3 q (by omega)).trans (l q hq)
  have t22 := con_t cs l3 (i := 22) (by decide) (Or.inr (by decide))
  rw [← c22] at t22
  have n2 : (([] ++ wS 21) ++ M : List Nat).length = 1 + M.length := by rw [List.length_append, n1]
  have n22 : (wS 22).length = 1 := rfl
  obtain ⟨X4, q1, q2, q3⟩ := sb_str (M := wS 22) k2 t22 rfl c22b c22c (by rw [n2, n22]; omega)
  have z4 : X4.1 = H.1 + 2 := q3.1.trans z3
  have w4 := q3.wf w3 (by omega) (by omega)
  have o4 : ∀ q, q < H.1 → X4.2 q = H.2 q := fun q hq => (q3.2 q (by omega) (by omega)).trans (o3 q hq)
  have eL : (([] ++ wS 21) ++ M) ++ wS 22 = [32] ++ (M ++ [59]) := by
    show ([32] ++ M) ++ [59] = _
    rw [List.append_assoc]
  have n3 : ([32] ++ (M ++ [59]) : List Nat).length = M.length + 2 := by simp
  rw [eL] at q2
  obtain ⟨gt, r1, r2⟩ := sb_toS (G := G) q2 (by rw [n3]; omega) (by omega) (by omega)
  refine ⟨X1, X2, X3, X4, _, X4.1, i1, sb_is i3, j1, sb_is j2, k1, sb_is k2, q1, sb_is q2, r1, wordAt_ext r2, by omega, ?_⟩
  have e4 : eff (fun _ => False) H X4 := ⟨by omega, fun q hq _ => o4 q hq, fun _ => w4⟩
  exact e4.trans (eff_ext _ X4 _)
end QUO
section RMS
variable {G : gG} {a b : Nat} {F0 : RFc}
theorem msL_len (s u : Nat) (M : List Nat) : (msL s u M).length ≤ 15 + M.length := by
  have nm := nms_len [s, u]
  have w7 := wK7 (i := 4) (by decide)
  unfold msL
  rw [List.length_append, List.length_append, List.length_append, List.length_append]
  have e1 : ([32] : List Nat).length = 1 := rfl
  have e2 : ([59] : List Nat).length = 1 := rfl
  have e3 : ([s, u] : List Nat).length = 2 := rfl
  omega
theorem msL_as {s u : Nat} {M : List Nat} (hs : s < 100) (hu : u < 100) (sm : smL M) : asL (msL s u M) := fun c hc => by
  have q := stL_as 4 [s, u] (fun m hm => by simp at hm; omega)
  unfold stL at q
  unfold msL at hc
  rcases List.mem_append.mp hc with z | z
  · exact q c (List.mem_append.mpr (Or.inl z))
  · rcases List.mem_append.mp z with z | z
    · exact q c (List.mem_append.mpr (Or.inr (List.mem_append.mpr (Or.inl z))))
    · rcases List.mem_append.mp z with z | z
      · rw [List.mem_singleton.mp z]; decide
      · rcases List.mem_append.mp z with z | z
        · exact sm.as c z
        · rw [List.mem_singleton.mp z]; decide
theorem msg_it (cs : csG G b) {h : gH} {L : List Nat} {S : RS} {D : Nat → Int32} {V : RW} {tb : Int32} {ns m : Nat} (fu : Nat) (t : Tri a b F0 h L S D V) (pr : PR L F0.tr V tb ns) (n100 : ns < 100) (h5 : L.length ≤ 300) (hm : V.told < m) (m3 : m ≤ 3) : ∃ h' L' S' D' V', f_L_randomLine_b509 G (fu + 1) h a (a + 614) (a + 615) S.B (nI m) (nI V.told) = f_L_randomLine_b509 G fu h' a (a + 614) (a + 615) S.B (nI m) (nI (V.told + 1)) ∧ S'.B = S.B ∧ Tri a b F0 h' L' S' D' V' ∧ PR L' F0.tr V' tb (ns + 1) ∧ L'.length ≤ L.length + 26 ∧ V'.told = V.told + 1 ∧ V'.time = V.time := by
  obtain ⟨s, h1, s1, x1, t1, -⟩ := t.below G (n := 2) (by decide) (by decide) e2n
  obtain ⟨u, h2, u1, x2, t2, -⟩ := t1.below G (n := 10) (by decide) (by decide) (show (10 : Int32) = nI 10 by decide)
  obtain ⟨B2, tt2, l2⟩ := t2
  have hc2 := B2.2.2.2.1
  have hb := B2.2.2.1
  obtain ⟨M, x, h3, w1, w2, w3, w4, w5, w6, w7, w8, w9⟩ := word_c (G := G) B2.2.2.2.2 B2.1 (fun css => by
    have cc := con_t (G := G) (h := ext h2 css) cs (fun q hq => (ext_out h2 css (Or.inl (by omega))).trans (B2.2.1 q hq)) (i := 23) (by decide) (Or.inr (by decide))
    have e0 : g_len.getD 23 0 = 0 := by decide +kernel
    rw [e0] at cc
    exact ⟨_, cc⟩)
  have f3 : eff (fun q => q = a + 615) h2 h3 := eff_grew w3
  have t3 : Tri a b F0 h3 L S D V := ⟨⟨w4, B2.2.1.eff f3 (by omega) (fun q hq => by omega), hb, Nat.le_trans hc2 w3.1, w2⟩, tt2.fr B2 f3 (fun q hq => by omega), l2.fr B2.1 f3 (fun q hq z => by have := z.1; omega)⟩
  have B3 := t3.1
  have h8 : V.told < 8 := by omega
  obtain ⟨h4, S', D', e1, e2, e3, -, e5⟩ := Lin.adds (G := G) (a := a) (bA := 0) t3.2.2 B3.1 (hPq0 B3) h8 s1 u1 w6 w7 (show M.length ≤ 16 by omega) w5 (fun q hq => ⟨⟨by omega, by omega⟩, by
    have r2 : ∀ z, S.r z ≠ 0 → z < h2.1 := fun z hz => l2.own B2.1 hz
    exact Decidable.byContradiction (fun z => by have := r2 q z; omega)⟩)
  have t4 : Tri a b F0 h4 L S' D' (V.addMsg (nI s) (nI u) (fun i => nI (byt M i)) 0 M.length) := t3.step e5 (fun q hq => by rw [hq]; exact t3.own _ t3.2.2.rB) e2
  have n2 : g_nwI h4 2 2 = some (ext h4 [.inl (0, 2, .inl fun _ => 0)]) := nw_e h4 e2n (by decide) (by decide)
  have a0 := ast_e h4 e0n (show 0 < 2 by decide) (by decide) (fun _ => 0) (nI s)
  have a1 := ast_e h4 e1n (show 1 < 2 by decide) (by decide) (upd (fun _ => 0) 0 (nI s)) (nI u)
  have t5 := t4.ex [.inl (0, 2, .inl (upd (upd (fun _ => 0) 0 (nI s)) 1 (nI u)))]
  obtain ⟨B5, tt5, l5⟩ := t5
  have B4 := t4.1
  obtain ⟨h6, x6, tt6, f6, g6⟩ := wrAll_t (G := G) cs B5.2.1 B5.2.2.1 (by have := B5.2.2.2.1; omega) tt5 (i := 4) (by decide) (p := h4.1) (ns := [s, u]) (by have := B4.2.2.2.1; omega) (by show 2 < 10; decide) (row2g s u) (fun m hm => by simp at hm; omega) (ext_in h4 _ (j := 0) (by simp)) (by rw [ext_fst]; exact Nat.lt_succ_self _) (by omega)
  have B6 : Bas a b h6 := B5.fr f6 (fun q hq => by omega)
  have l6 := l5.fr B5.1 f6 (fun q hq z => by have := z.1; omega)
  have c6 := B6.2.2.2.1
  -- the word lies there still
  have wl : x < h3.1 := by
    obtain ⟨v, g, ex, -⟩ := w5
    exact B3.1 _ _ ex
  have kp : ∀ q c, h3.2 q = some c → x ≤ q → h6.2 q = h3.2 q := fun q c e hq => by
    have ql := B3.1 _ _ e
    have r2 : ∀ z, S.r z ≠ 0 → z < h2.1 := fun z hz => l2.own B2.1 hz
    have nB : q ≠ S.B := fun z => by have := r2 q (by rw [z]; exact l2.rB); omega
    have q4 : h4.2 q = h3.2 q := e5.2.1 q ql nB
    have ql4 : q < h4.1 := Nat.lt_of_lt_of_le ql e5.1
    rw [f6.2.1 q (by rw [ext_fst]; omega) (by omega), ext_out h4 _ (Or.inl ql4), q4]
  have wa6 : wordAt h6 x M := by
    obtain ⟨v, g, ex, ev, xv, eg⟩ := w5
    exact ⟨v, g, (kp x _ ex (Nat.le_refl x)).trans ex, (kp v _ ev (by omega)).trans ev, xv, eg⟩
  obtain ⟨X1, X2, X3, X4, h7, y, i1, i2, i3, i4, i5, i6, i7, i8, i9, i10, i11, f7⟩ := quote_c (G := G) cs B6.1 B6.2.1 (by omega) wa6 w6 w8
  have B7 : Bas a b h7 := B6.fr f7 (fun q hq => hq.elim)
  have tt7 := tt6.fr B6 f7 (fun q hq => hq.elim)
  have l7 := l6.fr B6.1 f7 (fun q hq => hq.elim)
  obtain ⟨v, g, ey, ev, yv, eg⟩ := i10
  have n3 : ([32] ++ (M ++ [59]) : List Nat).length = M.length + 2 := by simp
  have as3 : asL ([32] ++ (M ++ [59])) := fun c hc => by
    rcases List.mem_append.mp hc with z | z
    · rw [List.mem_singleton.mp z]; decide
    · rcases List.mem_append.mp z with z | z
      · exact w6.as c z
      · rw [List.mem_singleton.mp z]; decide
  have nm := nms_len [s, u]
  have w77 := wK7 (i := 4) (by decide)
  have e3' : ([s, u] : List Nat).length = 2 := rfl
  obtain ⟨h8', x8, tt8, f8, g8⟩ := wrW_t (G := G) (by have := B7.2.2.2.1; omega) tt7 ey ev eg (Or.inr (by omega)) (Or.inr (by omega)) as3 (by rw [n3, List.length_append, List.length_append]; omega)
  have t8 : Tri a b F0 h8' (L ++ msL s u M) S' D' (V.addMsg (nI s) (nI u) (fun i => nI (byt M i)) 0 M.length) := ⟨B7.fr f8 (fun q hq => by omega), by
    have et : (L ++ (wK 4 ++ nmsL [s, u])) ++ ([32] ++ (M ++ [59])) = L ++ msL s u M := by unfold msL; simp only [List.append_assoc]
    rw [et] at tt8
    exact tt8, l7.fr B7.1 f8 (fun q hq z => by have := z.1; omega)⟩
  obtain ⟨v1, v2, -⟩ := addMsg_f (s := nI s) (u := nI u) (n := M.length) (p := 0) (T := fun i => nI (byt M i)) h8
  have sl := msL_len s u M
  refine ⟨h8', _, S', D', _, ?_, e3, t8, PR_add pr t.2.2.rel.ok n100 (c := 109) rfl (by decide) (msL_as (by omega) (by omega) w6) (fun T R Q tl hp' ht => ?_), ?_, v1, v2⟩
  · have i1' : f_T4_init_da8c8 G (g_add h6 (.inr (13, g_dfl 13))) h6.1 = some X1 := i1
    rw [f_L_randomLine_b509, if_pos (nI_lt hm (by omega)), t.is, cond_true, x1, Option.bind_some]
    dsimp only
    rw [t1.is, cond_true, x2, Option.bind_some]
    dsimp only
    rw [w1, Option.bind_some]
    dsimp only
    rw [t3.2.2.fld.1, cond_true, e1, Option.bind_some, n2, Option.bind_some, a0, Option.bind_some, a1, Option.bind_some, x6, Option.bind_some]
    unfold g_mk
    rw [Option.bind_some, i1', Option.bind_some, i2, cond_true, i3, Option.bind_some]
    dsimp only
    rw [i4, cond_true, i5, Option.bind_some]
    dsimp only
    rw [i6, cond_true, i7, Option.bind_some]
    dsimp only
    rw [i8, cond_true, i9, Option.bind_some]
    dsimp only
    rw [x8, Option.bind_some, ← nI_succ]
  · have q := message_st (V := V) tl hp' s1 u1 w6 w7 (show M.length ≤ 24 by omega) h8
    rw [ht] at q
    exact q
  · rw [List.length_append]; omega
theorem msg_lp (cs : csG G b) {m : Nat} (m3 : m ≤ 3) : ∀ (d fuel : Nat) (h : gH) (L : List Nat) (S : RS) (D : Nat → Int32) (V : RW) (tb : Int32) (ns : Nat), d < fuel → V.told + d = m → Tri a b F0 h L S D V → PR L F0.tr V tb ns → ns + d < 50 → L.length + 26 * d ≤ 300 → ∃ fu h' L' S' D' V' ns', f_L_randomLine_b509 G fuel h a (a + 614) (a + 615) S.B (nI m) (nI V.told) = f_L_randomLine_b509 G (fu + 1) h' a (a + 614) (a + 615) S.B (nI m) (nI m) ∧ S'.B = S.B ∧ Tri a b F0 h' L' S' D' V' ∧ PR L' F0.tr V' tb ns' ∧ ns' < 50 ∧ L'.length ≤ 300 ∧ V'.told = m ∧ V'.time = V.time
  | 0, fuel, h, L, S, D, V, tb, ns, hf, hd, t, pr, n50, h5 => by
    obtain ⟨fu, rfl⟩ := Nat.exists_eq_succ_of_ne_zero (Nat.ne_of_gt hf)
    have : V.told = m := hd
    exact ⟨fu, h, L, S, D, V, ns, by rw [this], rfl, t, pr, by omega, by omega, this, rfl⟩
  | d + 1, fuel, h, L, S, D, V, tb, ns, hf, hd, t, pr, n50, h5 => by
    obtain ⟨fu, rfl⟩ := Nat.exists_eq_succ_of_ne_zero (Nat.ne_of_gt (Nat.zero_lt_of_lt hf))
    obtain ⟨h1, L1, S1, D1, V1, e1, e2, e3, e4, e5, e6, e7⟩ := msg_it cs fu t pr (by omega) (by omega) (show V.told < m by omega) m3
    obtain ⟨fu2, h2, L2, S2, D2, V2, ns2, g1, g2, g3, g4, g5, g6, g7, g8⟩ := msg_lp cs m3 d fu h1 L1 S1 D1 V1 tb (ns + 1) (by omega) (by omega) e3 e4 (by omega) (by omega)
    rw [e2] at g1 g2
    rw [e6] at g1
    exact ⟨fu2, h2, L2, S2, D2, V2, ns2, e1.trans g1, g2, g3, g4, g5, g6, g7, g8.trans e7⟩
end RMS
