/-! randomLine's keepers -/
section RKE
variable {G : gG} {a b : Nat} {F0 : RFc}
/-- is there a keeper of this station at this tick -/
theorem chk_l {h : gH} {S : RS} {D : Nat → Int32} {V : RW} (K : gH → Nat → Nat → Nat → Nat → Int32 → Option (Option Nat × gH)) {nk s t : Nat} {rw' st : Nat → Nat} {tk ky : Nat → Int32} (hs : s < 2) (n16 : nk ≤ 16) (h1 : still h S S.KA (rfs 3 nk rw')) (h2 : ∀ r, r < nk → still h S (rw' r) (.inl (0, 3, .inl (row3 (nI (st r)) (tk r) (ky r))))) (s2 : ∀ r, r < nk → st r < 2) (x1 x2 x3 : Nat) (n4 : Int32) : ∀ (d r fuel : Nat) (v : Bool), r + d = nk → d < fuel → ∃ fu v', f_L_randomLine_b262 G K fuel h x1 x2 x3 S.B n4 (nI s) (nI t) (bI v) S.KA (nI nk) (nI r) = f_L_randomLine_b262 G K (fu + 1) h x1 x2 x3 S.B n4 (nI s) (nI t) (bI v') S.KA (nI nk) (nI nk) ∧ (v' = true ↔ v = true ∧ ∀ j, r ≤ j → j < nk → ¬ (st j = s ∧ tk j = nI t)) := by
  intro d
  induction d with
  | zero =>
    intro r fuel v hr hf
    obtain ⟨fu, rfl⟩ := Nat.exists_eq_succ_of_ne_zero (Nat.ne_of_gt (Nat.zero_lt_of_lt hf))
    have : r = nk := by omega
    subst this
    exact ⟨fu, v, rfl, fun z => ⟨z, fun j h1 h2 => absurd h1 (by omega)⟩, fun z => z.1⟩
  | succ d ih =>
    intro r fuel v hr hf
    obtain ⟨fu, rfl⟩ := Nat.exists_eq_succ_of_ne_zero (Nat.ne_of_gt (Nat.zero_lt_of_lt hf))
    have hr2 : r < nk := by omega
    have q := rfs_l h1.1 hr2 (show nk < 2 ^ 31 by omega)
    obtain ⟨d0, d1, -⟩ := row3_l (h2 r hr2).1
    have c1 : (1 : Int32) = bI true := rfl
    have c0 : (0 : Int32) = bI false := rfl
    have eq1 : (nI (st r) = nI s) ↔ st r = s := nI_eq (by have := s2 r hr2; omega) (by omega)
    rw [f_L_randomLine_b262, if_pos (nI_lt hr2 (by omega)), q, Option.bind_some, Option.bind_some, d0, Option.bind_some]
    by_cases e1 : st r = s
    · rw [if_pos (eq1.mpr e1), d1, Option.bind_some]
      by_cases e2 : tk r = nI t
      · rw [if_pos e2]
        unfold f_L_randomLine_b301
        rw [c0, and_bI, ← nI_succ, Bool.and_false]
        obtain ⟨fu', v', y1, y2⟩ := ih (r + 1) fu false (by omega) (by omega)
        exact ⟨fu', v', y1, fun z => absurd (y2.mp z).1 (by decide), fun z => absurd ⟨e1, e2⟩ (z.2 r (Nat.le_refl r) hr2)⟩
      · rw [if_neg e2]
        unfold f_L_randomLine_b296 f_L_randomLine_b301
        rw [← nI_succ, c1, and_bI, Bool.and_true]
        obtain ⟨fu', v', y1, y2⟩ := ih (r + 1) fu v (by omega) (by omega)
        refine ⟨fu', v', y1, fun z => ⟨(y2.mp z).1, fun j j1 j2 => ?_⟩, fun z => y2.mpr ⟨z.1, fun j j1 j2 => z.2 j (by omega) j2⟩⟩
        by_cases c : j = r
        · subst c; exact fun w => e2 w.2
        · exact (y2.mp z).2 j (by omega) j2
    · rw [if_neg (fun z => e1 (eq1.mp z))]
      unfold f_L_randomLine_b296 f_L_randomLine_b301
      rw [← nI_succ, c1, and_bI, Bool.and_true]
      obtain ⟨fu', v', y1, y2⟩ := ih (r + 1) fu v (by omega) (by omega)
      refine ⟨fu', v', y1, fun z => ⟨(y2.mp z).1, fun j j1 j2 => ?_⟩, fun z => y2.mpr ⟨z.1, fun j j1 j2 => z.2 j (by omega) j2⟩⟩
      by_cases c : j = r
      · subst c; exact fun w => e1 w.1
      · exact (y2.mp z).2 j (by omega) j2
theorem pred_nI (n : Nat) : nI (n + 1) + (-1) = nI n := by
  rw [nI_succ, Int32.add_assoc, show (1 : Int32) + (-1) = 0 by decide, Int32.add_zero]
theorem setKp_t (V : RW) {s : Nat} (hs : s < 2) {K : RKp} (e : K.told = (V.kp (nI s)).told + 1) : ((V.setKp (nI s) K).kp (nI 0)).told + ((V.setKp (nI s) K).kp (nI 1)).told = (V.kp (nI 0)).told + (V.kp (nI 1)).told + 1 := by
  rw [setKp_kp hs (by decide), setKp_kp hs (by decide)]
  rcases (by omega : s = 0 ∨ s = 1) with rfl | rfl
  · rw [if_pos rfl, if_neg (by decide), e]; omega
  · rw [if_neg (by decide), if_pos rfl, e]; omega
/-- one turn of the keepers' loop -/
theorem keep_it (cs : csG G b) {h : gH} {L : List Nat} {S : RS} {D : Nat → Int32} {V : RW} {tb : Int32} {ns n : Nat} (fu : Nat) (t : Tri a b F0 h L S D V) (pr : PR L F0.tr V tb ns) (n100 : ns < 100) (h5 : L.length ≤ 300) (hn : (V.kp (nI 0)).told + (V.kp (nI 1)).told + (n + 1) ≤ 4) : ∃ h' L' S' D' V' ns', f_L_randomLine_b225 G (fu + 1) h a (a + 614) (a + 615) S.B (nI (n + 1)) = f_L_randomLine_b225 G fu h' a (a + 614) (a + 615) S.B (nI n) ∧ S'.B = S.B ∧ Tri a b F0 h' L' S' D' V' ∧ PR L' F0.tr V' tb ns' ∧ ns' ≤ ns + 1 ∧ L'.length ≤ L.length + 17 ∧ V'.told = V.told ∧ V'.mi = V.mi ∧ (V'.kp (nI 0)).told + (V'.kp (nI 1)).told + n ≤ 4 ∧ V'.time = V.time := by
  obtain ⟨s, h1, s1, x1, t1, -⟩ := t.below G (n := 2) (by decide) (by decide) e2n
  obtain ⟨y, h2, y1, x2, t2, -⟩ := t1.below G (n := 40) (by decide) (by decide) (show (40 : Int32) = nI 40 by decide)
  obtain ⟨nk, rw', st, tk, ky, b1, b2, b3, b4⟩ := t2.2.2.L.2.1.2.2.2.1
  have alk : g_aln h2 S.KA = some (nI nk) := rfs_n b2.1
  obtain ⟨f', v', c1, c2⟩ := chk_l (G := G) (D := D) (V := V) (f_L_randomLine_b225 G fu) s1 b1 b2 b3 (fun r hr => (b4.1 r hr).1) (t := y) a (a + 614) (a + 615) (nI (n + 1)) nk 0 g_N true (by omega) (by unfold g_N; omega)
  rw [nI_0] at c1
  have p0 : (0 : Int32) < nI (n + 1) := by rw [← nI_0]; exact nI_lt (by omega) (by omega)
  have c1' : f_L_randomLine_b262 G (f_L_randomLine_b225 G fu) g_N h2 a (a + 614) (a + 615) S.B (nI (n + 1)) (nI s) (nI y) 1 S.KA (nI nk) 0 = f_L_randomLine_b262 G (f_L_randomLine_b225 G fu) (f' + 1) h2 a (a + 614) (a + 615) S.B (nI (n + 1)) (nI s) (nI y) (bI v') S.KA (nI nk) (nI nk) := c1
  rw [f_L_randomLine_b225, if_pos p0, t.is, cond_true, x1, Option.bind_some]
  dsimp only
  rw [t1.is, cond_true, x2, Option.bind_some]
  dsimp only
  rw [t2.2.2.fld.2.2.2.1, Option.bind_some, alk, Option.bind_some, c1', f_L_randomLine_b262, if_neg (nI_nlt (Nat.le_refl nk) (by omega))]
  cases v' with
  | false =>
    rw [bI_f, if_pos rfl]
    unfold f_L_randomLine_b387
    rw [pred_nI]
    exact ⟨h2, L, S, D, V, ns, rfl, rfl, t2, pr, by omega, by omega, rfl, rfl, by omega, rfl⟩
  | true =>
    have no := (c2.mp rfl).2
    have pn : (V.kp (nI s)).place (nI y) = none := by
      unfold RKp.place
      refine fnd_none.mpr (fun i _ hi z => ?_)
      obtain ⟨r, r1, r2, r3⟩ := b4.2.1 s i s1 (by omega)
      exact no r (Nat.zero_le r) r1 ⟨r2, r3.trans z⟩
    have k8 : (V.kp (nI s)).told < 8 := by
      rcases (by omega : s = 0 ∨ s = 1) with rfl | rfl <;> omega
    rw [bI_t, if_neg (by decide)]
    obtain ⟨k, h3, k1, x3, t3, -⟩ := t2.below G (n := 26) (by decide) (by decide) (show (26 : Int32) = nI 26 by decide)
    obtain ⟨nk', rw2, st2, tk2, ky2, d1, d2, d3, d4⟩ := t3.2.2.L.2.1.2.2.2.1
    have B3 := t3.1
    obtain ⟨m1, m2, m3, m4⟩ := mk3 h3 (nI s) (nI y) (nI k)
    obtain ⟨h4, h5', S', D', e1, e2, e3, e4, -, e6, e7⟩ := Lin.keep (G := G) (a := a) (bA := 0) t3.2.2 B3.1 (hPq0 B3) s1 (kpX_none s1 d4 pn) (fun _ => k8) ⟨k, k1, rfl⟩ ⟨y, by omega, rfl⟩ d2.1 d3
    have t5 : Tri a b F0 h5' L S' D' (V.setKp (nI s) ((V.kp (nI s)).come (nI y) (nI k))) := t3.step e6 (fun q hq => by rw [hq]; exact t3.own _ t3.2.2.rB) e3
    obtain ⟨o1, o2, o3, o4⟩ := mk3 h5' (nI s) (nI y) (nI k)
    have B5 := t5.1
    have t6 := t5.ex [.inl (0, 3, .inl (row3 (nI s) (nI y) (nI k)))]
    obtain ⟨h7, h8, x7, x8, t8, -⟩ := t6.stmt (G := G) cs (i := 2) (by decide) (p := h5'.1) (ms := [s, y, k]) (by have := B5.2.2.2.1; omega) (by show 3 < 10; decide) (row3g s y k) (fun m hm => by simp at hm; omega) (ext_in h5' _ (j := 0) (by simp)) (by omega)
    have e3' : (rw3 h3 (row3 (nI s) (nI y) (nI k))).1 = h3.1 + 1 := rfl
    rw [t2.is, cond_true, x3, Option.bind_some]
    dsimp only
    rw [t3.2.2.fld.2.2.2.1, Option.bind_some, m1, Option.bind_some, m2, Option.bind_some, m3, Option.bind_some, m4, Option.bind_some, e1, Option.bind_some]
    dsimp only
    rw [e2, Option.bind_some, o1, Option.bind_some, o2, Option.bind_some, o3, Option.bind_some, o4, Option.bind_some]
    have x7' : f_L_writeAll G (rw3 h5' (row3 (nI s) (nI y) (nI k))) a (a + 614) (g_aK G 2) h5'.1 = some h7 := x7
    rw [x7', Option.bind_some, x8, Option.bind_some]
    unfold f_L_randomLine_b387
    rw [pred_nI]
    obtain ⟨q1, q2, q3, q4, q5, q6, q7, q8, q9, q10, q11, q12, q13⟩ := setKp_side V (nI s) ((V.kp (nI s)).come (nI y) (nI k))
    have ct : ((V.kp (nI s)).come (nI y) (nI k)).told = (V.kp (nI s)).told + 1 := by rw [come_none pn k8]; rfl
    have sl := stL_len (i := 2) (by decide) [s, y, k]
    refine ⟨h8, _, S', D', _, ns + 1, rfl, e4, t8, PR_add pr t.2.2.rel.ok n100 (c := 107) rfl (by decide) (stL_as 2 _ (fun m hm => by simp at hm; omega)) (fun T R Q tl hp' ht => ?_), Nat.le_refl _, ?_, q2, q13, ?_, q1⟩
    · have q := keeper_st (V := V) tl hp' s1 (show y < 100 by omega) k1 k8 pn
      rw [ht] at q
      exact q
    · rw [List.length_append]
      have : [s, y, k].length = 3 := rfl
      omega
    · rw [setKp_t V s1 ct]; omega
theorem keep_lp (cs : csG G b) : ∀ (n fuel : Nat) (h : gH) (L : List Nat) (S : RS) (D : Nat → Int32) (V : RW) (tb : Int32) (ns : Nat), n < fuel → Tri a b F0 h L S D V → PR L F0.tr V tb ns → ns + n < 50 → L.length + 17 * n ≤ 300 → (V.kp (nI 0)).told + (V.kp (nI 1)).told + n ≤ 4 → ∃ fu h' L' S' D' V' ns', f_L_randomLine_b225 G fuel h a (a + 614) (a + 615) S.B (nI n) = f_L_randomLine_b225 G (fu + 1) h' a (a + 614) (a + 615) S.B (nI 0) ∧ S'.B = S.B ∧ Tri a b F0 h' L' S' D' V' ∧ PR L' F0.tr V' tb ns' ∧ ns' ≤ ns + n ∧ L'.length ≤ L.length + 17 * n ∧ V'.told = V.told ∧ V'.mi = V.mi ∧ V'.time = V.time
  | 0, fuel, h, L, S, D, V, tb, ns, hf, t, pr, n50, h5, hn => by
    obtain ⟨fu, rfl⟩ := Nat.exists_eq_succ_of_ne_zero (Nat.ne_of_gt hf)
    exact ⟨fu, h, L, S, D, V, ns, rfl, rfl, t, pr, by omega, by omega, rfl, rfl, rfl⟩
  | n + 1, fuel, h, L, S, D, V, tb, ns, hf, t, pr, n50, h5, hn => by
    obtain ⟨fu, rfl⟩ := Nat.exists_eq_succ_of_ne_zero (Nat.ne_of_gt (Nat.zero_lt_of_lt hf))
    obtain ⟨h1, L1, S1, D1, V1, ns1, e1, e2, e3, e4, e5, e6, e7, e8, e9, e10⟩ := keep_it cs fu t pr (by omega) (by omega) hn
    obtain ⟨fu2, h2, L2, S2, D2, V2, ns2, g1, g2, g3, g4, g5, g6, g7, g8, g9⟩ := keep_lp cs n fu h1 L1 S1 D1 V1 tb ns1 (by omega) e3 e4 (by omega) (by omega) e9
    rw [e2] at g1 g2
    exact ⟨fu2, h2, L2, S2, D2, V2, ns2, e1.trans g1, g2, g3, g4, by omega, by omega, g7.trans e7, g8.trans e8, g9.trans e10⟩
end RKE
