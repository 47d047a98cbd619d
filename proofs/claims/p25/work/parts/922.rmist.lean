/-! randomLine's mists -/
section RMI
variable {G : gG} {a b : Nat} {F0 : RFc}
theorem mist_it (cs : csG G b) {h : gH} {L : List Nat} {S : RS} {D : Nat → Int32} {V : RW} {tb : Int32} {ns n : Nat} (fu : Nat) (t : Tri a b F0 h L S D V) (pr : PR L F0.tr V tb ns) (n100 : ns < 100) (h5 : L.length ≤ 300) (hn : V.mi.told + (n + 1) ≤ 4) : ∃ h' L' S' D' V' ns', f_L_randomLine_b400 G (fu + 1) h a (a + 614) (a + 615) S.B (nI (n + 1)) = f_L_randomLine_b400 G fu h' a (a + 614) (a + 615) S.B (nI n) ∧ S'.B = S.B ∧ Tri a b F0 h' L' S' D' V' ∧ PR L' F0.tr V' tb ns' ∧ ns' ≤ ns + 1 ∧ L'.length ≤ L.length + 17 ∧ V'.told = V.told ∧ V'.mi.told + n ≤ 4 ∧ V'.time = V.time := by
  obtain ⟨x, h1, u1, x1, t1, -⟩ := t.below G (n := 60) (by decide) (by decide) (show (60 : Int32) = nI 60 by decide)
  obtain ⟨d, h2, u2, x2, t2, -⟩ := t1.below G (n := 12) (by decide) (by decide) (show (12 : Int32) = nI 12 by decide)
  obtain ⟨z, h3, u3, x3, t3, -⟩ := t2.below G (n := 10) (by decide) (by decide) (show (10 : Int32) = nI 10 by decide)
  have B3 := t3.1
  have h12 : V.mi.told < 12 := by omega
  obtain ⟨m1, m2, m3, m4⟩ := mk3 h3 (nI x) (nI (x + d)) (nI z)
  obtain ⟨h4, h5', S', D', e1, e2, e3, e4, -, e6, e7⟩ := Lin.fog (G := G) (a := a) (bA := 0) t3.2.2 B3.1 (hPq0 B3) h12 (nI x) (nI (x + d)) (nI z)
  have t5 : Tri a b F0 h5' L S' D' (V.fogged (nI x) (nI (x + d)) (nI z)) := t3.step e6 (fun q hq => by rw [hq]; exact t3.own _ t3.2.2.rB) e3
  obtain ⟨o1, o2, o3, o4⟩ := mk3 h5' (nI x) (nI (x + d)) (nI z)
  have B5 := t5.1
  have t6 := t5.ex [.inl (0, 3, .inl (row3 (nI x) (nI (x + d)) (nI z)))]
  obtain ⟨h7, h8, x7, x8, t8, -⟩ := t6.stmt (G := G) cs (i := 3) (by decide) (p := h5'.1) (ms := [x, x + d, z]) (by have := B5.2.2.2.1; omega) (by show 3 < 10; decide) (row3g x (x + d) z) (fun m hm => by simp at hm; omega) (ext_in h5' _ (j := 0) (by simp)) (by omega)
  have x7' : f_L_writeAll G (rw3 h5' (row3 (nI x) (nI (x + d)) (nI z))) a (a + 614) (g_aK G 3) h5'.1 = some h7 := x7
  have p0 : (0 : Int32) < nI (n + 1) := by rw [← nI_0]; exact nI_lt (by omega) (by omega)
  rw [f_L_randomLine_b400, if_pos p0, t.is, cond_true, x1, Option.bind_some]
  dsimp only
  rw [t1.is, cond_true, x2, Option.bind_some]
  dsimp only
  rw [t2.is, cond_true, x3, Option.bind_some]
  dsimp only
  rw [nI_add, t3.2.2.fld.2.2.2.2.1, Option.bind_some, m1, Option.bind_some, m2, Option.bind_some, m3, Option.bind_some, m4, Option.bind_some, e1, Option.bind_some]
  dsimp only
  rw [e2, Option.bind_some, o1, Option.bind_some, o2, Option.bind_some, o3, Option.bind_some, o4, Option.bind_some, x7', Option.bind_some, x8, Option.bind_some, pred_nI]
  have em : (V.fogged (nI x) (nI (x + d)) (nI z)).mi.told = V.mi.told + 1 := by
    show (V.mi.add (nI x) (nI (x + d)) (nI z)).told = _
    unfold RMi.add
    rw [if_pos h12]
    rfl
  have sl := stL_len (i := 3) (by decide) [x, x + d, z]
  refine ⟨h8, _, S', D', _, ns + 1, rfl, e4, t8, PR_add pr t.2.2.rel.ok n100 (c := 109) rfl (by decide) (stL_as 3 _ (fun m hm => by simp at hm; omega)) (fun T R Q tl hp' ht => ?_), Nat.le_refl _, ?_, rfl, by omega, rfl⟩
  · have q := mist_st (V := V) tl hp' (show x ≤ x + d by omega) (show x + d < 100 by omega) u3 h12
    rw [ht] at q
    exact q
  · rw [List.length_append]
    have : [x, x + d, z].length = 3 := rfl
    omega
theorem mist_lp (cs : csG G b) : ∀ (n fuel : Nat) (h : gH) (L : List Nat) (S : RS) (D : Nat → Int32) (V : RW) (tb : Int32) (ns : Nat), n < fuel → Tri a b F0 h L S D V → PR L F0.tr V tb ns → ns + n < 50 → L.length + 17 * n ≤ 300 → V.mi.told + n ≤ 4 → ∃ fu h' L' S' D' V' ns', f_L_randomLine_b400 G fuel h a (a + 614) (a + 615) S.B (nI n) = f_L_randomLine_b400 G (fu + 1) h' a (a + 614) (a + 615) S.B (nI 0) ∧ S'.B = S.B ∧ Tri a b F0 h' L' S' D' V' ∧ PR L' F0.tr V' tb ns' ∧ ns' ≤ ns + n ∧ L'.length ≤ L.length + 17 * n ∧ V'.told = V.told ∧ V'.time = V.time
  | 0, fuel, h, L, S, D, V, tb, ns, hf, t, pr, n50, h5, hn => by
    obtain ⟨fu, rfl⟩ := Nat.exists_eq_succ_of_ne_zero (Nat.ne_of_gt hf)
    exact ⟨fu, h, L, S, D, V, ns, rfl, rfl, t, pr, by omega, by omega, rfl, rfl⟩
  | n + 1, fuel, h, L, S, D, V, tb, ns, hf, t, pr, n50, h5, hn => by
    obtain ⟨fu, rfl⟩ := Nat.exists_eq_succ_of_ne_zero (Nat.ne_of_gt (Nat.zero_lt_of_lt hf))
    obtain ⟨h1, L1, S1, D1, V1, ns1, e1, e2, e3, e4, e5, e6, e7, e8, e9⟩ := mist_it cs fu t pr (by omega) (by omega) hn
    obtain ⟨fu2, h2, L2, S2, D2, V2, ns2, g1, g2, g3, g4, g5, g6, g7, g8⟩ := mist_lp cs n fu h1 L1 S1 D1 V1 tb ns1 (by omega) e3 e4 (by omega) (by omega) e8
    rw [e2] at g1 g2
    exact ⟨fu2, h2, L2, S2, D2, V2, ns2, e1.trans g1, g2, g3, g4, by omega, by omega, g7.trans e7, g8.trans e9⟩
end RMI
