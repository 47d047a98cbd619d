/-! randomLine: a Line, and a class that has loaded the text that tells it -/
theorem rel_zl (W : RW) {z l : Nat} (z1 : 1 ≤ z) (z8 : z ≤ 8) (l1 : 1 ≤ l) (l9 : l ≤ 9) : Rel (W.clear z (nI l)) (upd (upd dNew 8 (nI z)) 9 (nI l)) ∧ (W.clear z (nI l)).live := by
  have o : ∀ j, j ≠ 8 → j ≠ 9 → upd (upd dNew 8 (nI z)) 9 (nI l) j = dNew j := fun j a b => by rw [upd_ne b, upd_ne a]
  refine Rel_clear W z1 z8 l1 l9 (o 2 (by decide) (by decide)) (by rw [upd_ne (by decide), upd_at]) (upd_at _ _ _) (fun c hc => ?_) (fun j hj j2 j8 j9 j10 j13 j14 j26 j29 j30 => ?_)
  · rcases (by omega : c = 0 ∨ c = 1) with rfl | rfl
    · exact ⟨o 10 (by decide) (by decide), o 13 (by decide) (by decide), o 14 (by decide) (by decide)⟩
    · exact ⟨o 26 (by decide) (by decide), o 29 (by decide) (by decide), o 30 (by decide) (by decide)⟩
  · rw [o j j8 j9]
    unfold dNew
    rw [if_neg j2, if_neg j8, if_neg j9, if_neg j10, if_neg j26, if_neg j13, if_neg j14, if_neg j29, if_neg j30]
theorem sm_clear (W : RW) (z : Nat) (l : Int32) : (W.clear z l).sm := fun i hi => absurd hi (Nat.not_lt_zero i)
theorem idl_clear (W : RW) (z : Nat) (l : Int32) : (W.clear z l).idl := fun c => by
  cases c
  · exact fun _ => Nat.zero_le 8
  · exact fun _ => Nat.zero_le 8
theorem kp_clear (W : RW) (z : Nat) (l x : Int32) : ((W.clear z l).kp x).told = 0 := by
  unfold RW.kp
  split <;> rfl
theorem lin_new {h : gH} (W : RW) (P : Nat → Prop) (hP : ∀ q, h.1 ≤ q → P q) : Lin (ext h (csL h.1)) P (sNew h.1 P) dNew (W.clear 4 3) := by
  refine ⟨new_is h P, new_r h W P (fun j _ => hP _ (Nat.le_add_right _ _)), (new_rel W).2, new_bool, sm_clear W 4 3, idl_clear W 4 3, fun q hq => ?_, rfl⟩
  rcases rOf_ne (show rOf h.1 (h.1 + 2) (h.1 + 4) (h.1 + 3) (h.1 + 5) 0 (fun _ => 0) (fun _ => 0) q ≠ 0 from hq) with z | z | z | z | z | ⟨i, i1, -⟩
  · exact hP q (by omega)
  · exact hP q (by omega)
  · exact hP q (by omega)
  · exact hP q (by omega)
  · exact hP q (by omega)
  · exact absurd i1 (Nat.not_lt_zero i)
theorem Lin.cop {h : gH} {P : Nat → Prop} {S : RS} {D : Nat → Int32} {R : RW} (l : Lin h P S D R) (X : RW) : Lin h P S D (R.copy X) := by
  obtain ⟨I, L, l1, l2, l3, l4, l5, l6⟩ := l
  exact ⟨I, L.copy l4 X, (L.2.2.1.copy X).2 l1, l2, sm_copy l3 X, idl_copy l4 X, l5, l6⟩
section RLI
variable {G : gG} {a b : Nat} {F0 : RFc}
/-- from the messages' end to the answer -/
theorem rl_4 (cs : csG G b) {h : gH} {L : List Nat} {S : RS} {D : Nat → Int32} {V : RW} {tb : Int32} {ns m : Nat} (m3 : m ≤ 3) (t : Tri a b F0 h L S D V) (pr : PR L F0.tr V tb ns) (n50 : ns < 40) (h5 : L.length ≤ 200) (v0 : V.told = 0) (hpl : F0.pl < 8) (hct : F0.ct ≤ 8) (h8 : F0.now.told ≤ 8) : ∃ h' S' D' V' B n, f_L_randomLine_b509 G 5 h a (a + 614) (a + 615) S.B (nI m) 0 = some (some S.B, h') ∧ S'.B = S.B ∧ Bas a b h' ∧ fIs h'.2 a (((F0.s_B B).s_n n).ldd V') ∧ bfO a h' ∧ Lin h' (Pq a 0) S' D' V' ∧ V'.time = V.time := by
  obtain ⟨fu, h1, L1, S1, D1, V1, ns1, e1, e2, e3, e4, e5, e6, e7, e8⟩ := msg_lp cs m3 m 5 h L S D V tb ns (by omega) (by omega) t pr (by omega) (by omega)
  rw [v0, nI_0] at e1
  have B1 := e3.1
  have hc := B1.2.2.2.1
  obtain ⟨h', B, n, x1, x2, x3, x4, x5⟩ := loadText_t (G := G) (h := h1) (by omega) hpl hct h8 e3.2.1 (by omega) e4 (by omega) (by omega)
  refine ⟨h', S1, D1, V1, B, n, ?_, e2, B1.fr x4 (fun q hq => by have := B1.2.2.1; omega), x2, x3, e3.2.2.fr B1.1 x4 (fun q hq z => by have := z.1; omega), e8⟩
  rw [e1, f_L_randomLine_b509, if_neg (nI_nlt (Nat.le_refl m) (by omega)), x1, Option.bind_some, if_pos (by rw [e7])]
theorem randomLine_t (cs : csG G b) {h : gH} (B : Bas a b h) (C : Cls a h F0) (h8 : F0.now.told ≤ 8) : ∃ h' S D V B n, f_L_randomLine G h a (a + 614) (a + 615) = some (some S.B, h') ∧ Bas a b h' ∧ fIs h'.2 a (((F0.s_B B).s_n n).ldd V) ∧ bfO a h' ∧ Lin h' (Pq a 0) S D V ∧ V.time = 0 := by
  obtain ⟨hf, bo, n0, hpl, hct⟩ := C
  have w := B.1
  have ts : TS a F0 h [] := bfO.ts hf n0 bo
  have c0 := x10_c G h
  have ln := lin_new F0.tr (Pq a 0) (hPq0 B)
  have ef0 := eff_ext (fun _ => False) h (csL h.1)
  have t0 : Tri a b F0 (ext h (csL h.1)) [] (sNew h.1 (Pq a 0)) dNew (F0.tr.clear 4 3) := ⟨B.fr ef0 (fun _ z => z.elim), ts.fr B ef0 (fun _ z => z.elim), ln⟩
  generalize hS : sNew h.1 (Pq a 0) = S at t0 ln
  have eB : S.B = h.1 := by rw [← hS]; rfl
  obtain ⟨k, h1, k1, x1, t1, -⟩ := t0.below G (n := 8) (by decide) (by decide) (show (8 : Int32) = nI 8 by decide)
  have p1 := lnT_size (h := h1) (D := dNew) t1.2.2.ok (nI (1 + k))
  rw [t1.2.2.self] at p1
  have u9 : upd (upd dNew 8 (nI (1 + k))) 9 (nI 3) = upd dNew 8 (nI (1 + k)) := upd_same (by rw [upd_ne (by decide)]; rfl)
  have r1 := rel_zl F0.tr (z := 1 + k) (l := 3) (by omega) (by omega) (by decide) (by decide)
  rw [u9] at r1
  have L1 : lnR h1 S (upd dNew 8 (nI (1 + k))) (F0.tr.clear (1 + k) (nI 3)) := ⟨t1.2.2.ok, t1.2.2.L.2.1, r1.1, t1.2.2.L.2.2.2⟩
  have t2 : Tri a b F0 (lnP h1 S (upd dNew 8 (nI (1 + k)))) [] S (upd dNew 8 (nI (1 + k))) (F0.tr.clear (1 + k) (nI 3)) := t1.step (eff_ln t1.2.2.1 t1.2.2.ok _) t1.own (t1.2.2.ln L1 r1.2 (t1.2.2.2.2.2.1.upd (Or.inr (by decide))) (idl_clear _ _ _))
  generalize hH2 : lnP h1 S (upd dNew 8 (nI (1 + k))) = h2 at t2 p1
  obtain ⟨l, h3, l1, x3, t3, -⟩ := t2.below G (n := 4) (by decide) (by decide) e4n
  have p3 := lnT_limit (h := h3) (D := upd dNew 8 (nI (1 + k))) t3.2.2.ok (nI (1 + l))
  rw [t3.2.2.self] at p3
  have r3 := rel_zl F0.tr (z := 1 + k) (l := 1 + l) (by omega) (by omega) (by omega) (by omega)
  have L3 : lnR h3 S (upd (upd dNew 8 (nI (1 + k))) 9 (nI (1 + l))) (F0.tr.clear (1 + k) (nI (1 + l))) := ⟨t3.2.2.ok, t3.2.2.L.2.1, r3.1, t3.2.2.L.2.2.2⟩
  have t4 : Tri a b F0 (lnP h3 S (upd (upd dNew 8 (nI (1 + k))) 9 (nI (1 + l)))) [] S (upd (upd dNew 8 (nI (1 + k))) 9 (nI (1 + l))) (F0.tr.clear (1 + k) (nI (1 + l))) := t3.step (eff_ln t3.2.2.1 t3.2.2.ok _) t3.own (t3.2.2.ln L3 r3.2 (t3.2.2.2.2.2.1.upd (Or.inr (by decide))) (idl_clear _ _ _))
  generalize hH4 : lnP h3 S (upd (upd dNew 8 (nI (1 + k))) 9 (nI (1 + l))) = h4 at t4 p3
  have n2 : g_nwI h4 2 2 = some (ext h4 [.inl (0, 2, .inl fun _ => 0)]) := nw_e h4 e2n (by decide) (by decide)
  have a0 := ast_e h4 e0n (show 0 < 2 by decide) (by decide) (fun _ => 0) (nI (1 + k))
  have a1 := ast_e h4 e1n (show 1 < 2 by decide) (by decide) (upd (fun _ => 0) 0 (nI (1 + k))) (nI (1 + l))
  have t5a := t4.ex [.inl (0, 2, .inl fun _ => 0)]
  have t5b := t4.ex [.inl (0, 2, .inl (upd (fun _ => 0) 0 (nI (1 + k))))]
  have t5 := t4.ex [.inl (0, 2, .inl (upd (upd (fun _ => 0) 0 (nI (1 + k))) 1 (nI (1 + l))))]
  have B4 := t4.1
  obtain ⟨h6, h7, x6, x7, t7, -⟩ := t5.stmt (G := G) cs (i := 0) (by decide) (p := h4.1) (ms := [1 + k, 1 + l]) (by have := B4.2.2.2.1; omega) (by show 2 < 10; decide) (row2g (1 + k) (1 + l)) (fun m hm => by simp at hm; omega) (ext_in h4 _ (j := 0) (by simp)) (by show 0 ≤ 350; decide)
  rw [List.nil_append] at t7
  have pr := PR_0 (z := 1 + k) (l := 1 + l) (by omega) (by omega) (by omega) (by omega) F0.tr
  have sl := stL_len (i := 0) (by decide) [1 + k, 1 + l]
  have sl2 : ([1 + k, 1 + l] : List Nat).length = 2 := rfl
  -- the two channels
  obtain ⟨h8', L8, D8, V8, tb8, ns8, y1, y2, y3, y4, y5, y6, y7, y8, y9, y10⟩ := chan_it (G := G) cs false 2 t7 pr (by decide) (by decide) (by omega)
  have bb : (tb8 &&& (1 <<< (nI (cn true) &&& 31))) = 0 := by
    rcases y4 with z | z
    · rw [z]; decide
    · rw [z]; decide
  obtain ⟨h9, L9, D9, V9, tb9, ns9, z1, z2, z3, z4, z5, z6, z7, z8, z9, z10⟩ := chan_it (G := G) cs true 1 y2 y3 (by omega) bb (by omega)
  obtain ⟨kn, h10, kn1, x10, t10, -⟩ := z2.below G (n := 5) (by decide) (by decide) (show (5 : Int32) = nI 5 by decide)
  have k0 : (V9.kp (nI 0)).told = 0 := by rw [z9, y9, kp_clear]
  have k0' : (V9.kp (nI 1)).told = 0 := by rw [z9, y9, kp_clear]
  obtain ⟨fu11, h11, L11, S11, D11, V11, ns11, q1, q2, q3, q4, q5, q6, q7, q8, q9⟩ := keep_lp cs kn 6 h10 L9 S D9 V9 tb9 ns9 (by omega) t10 z3 (by omega) (by omega) (by omega)
  obtain ⟨mn, h12, mn1, x12, t12, -⟩ := q3.below G (n := 5) (by decide) (by decide) (show (5 : Int32) = nI 5 by decide)
  have m0 : V11.mi.told = 0 := by rw [q8, z8, y8]; rfl
  obtain ⟨fu13, h13, L13, S13, D13, V13, ns13, w1, w2, w3, w4, w5, w6, w7, w8⟩ := mist_lp cs mn 6 h12 L11 S11 D11 V11 tb9 ns11 (by omega) t12 q4 (by omega) (by omega) (by omega)
  obtain ⟨m, h14, mm1, x14, t14, -⟩ := w3.below G (n := 4) (by decide) (by decide) e4n
  have v0 : V13.told = 0 := by rw [w7, q7, z7, y7]; rfl
  obtain ⟨h15, S15, D15, V15, BB, nn, u1, u2, u3, u4, u5, u6, u7⟩ := rl_4 (m := m) cs (by omega) t14 w4 (by omega) (by omega) v0 hpl hct h8
  have c1 : ∀ j, (1 : Int32) + nI j = nI (1 + j) := fun j => by rw [e1n, nI_add]
  have cz : ¬ ((0 : Int32) < nI 0) := by decide
  have i0 : nI (cn false) = 0 := nI_0
  have i1 : nI (cn false + 1) = nI (cn true) := rfl
  have i2' : nI (cn true + 1) = 2 := by decide
  rw [i0] at y1
  rw [i1] at y1
  rw [i2'] at z1
  rw [q2] at w1 w2
  rw [w2] at u1 u2
  refine ⟨h15, S15, D15, V15, BB, nn, ?_, u3, u4, u5, u6, ?_⟩
  · have x6' : f_L_writeAll G (ext h4 [.inl (0, 2, .inl (upd (upd (fun _ => 0) 0 (nI (1 + k))) 1 (nI (1 + l))))]) a (a + 614) (g_aK G 0) h4.1 = some h6 := x6
    rw [u2]
    unfold f_L_randomLine g_mk
    rw [Option.bind_some, c0, Option.bind_some, t0.is, cond_true, x1, Option.bind_some]
    dsimp only
    rw [c1, ← eB, p1, Option.bind_some, t2.is, cond_true, x3, Option.bind_some]
    dsimp only
    rw [c1, p3, Option.bind_some, n2, Option.bind_some, t5a.2.2.fld.2.2.2.2.2.1, Option.bind_some]
    show ((g_ast _ h4.1 0 (nI (1 + k))).bind _) = _
    rw [a0, Option.bind_some, t5b.2.2.fld.2.2.2.2.2.2.1, Option.bind_some]
    show ((g_ast _ h4.1 1 (nI (1 + l))).bind _) = _
    rw [a1, Option.bind_some, x6', Option.bind_some, x7, Option.bind_some]
    show f_L_randomLine_b65 G (2 + 1) h7 a (a + 614) (a + 615) S.B 0 = _
    rw [y1, z1, f_L_randomLine_b65, if_neg (by decide), z2.is, cond_true, x10, Option.bind_some]
    dsimp only
    rw [q1, f_L_randomLine_b225, if_neg cz, q3.is, cond_true, x12, Option.bind_some]
    dsimp only
    rw [w1, f_L_randomLine_b400, if_neg cz, w3.is, cond_true, x14, Option.bind_some]
    exact u1
  · rw [u7, w8, q9, z10, y10]; rfl
end RLI
