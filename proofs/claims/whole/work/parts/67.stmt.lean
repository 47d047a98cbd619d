section STMT2
variable {x : gH} {m : Nat} {R0 : RMo} {N : Nat} {T : Nat → Int32} {p e o ns tc : Int32} {D : Nat → Int32}
/-! keeper -/
theorem k79_1 (he : ¬ e = 0) (v w : Int32) : f_X8_readKeeper_b79 (mP x m (sS R0 N p e o ns tc D)) m v w = some (mP x m (sS R0 N p e o ns tc D)) := by
  simp only [f_X8_readKeeper_b79, sI, cond_true, num_1 he, Option.bind_some, good_1 he, if_true]
theorem k40_1 (he : ¬ e = 0) (v : Int32) : f_X8_readKeeper_b40 (mP x m (sS R0 N p e o ns tc D)) m v = some (mP x m (sS R0 N p e o ns tc D)) := by
  simp only [f_X8_readKeeper_b40, sI, cond_true, num_1 he, Option.bind_some, good_1 he, if_true, k79_1 he]
theorem kp_0 (hN : N ≤ 500) (hB : ∀ i, i < N → relB (R0.buf i) (T i)) {R : RRd} (hR : R.len = N) (hp : R.pos ≤ N) {W : RW} (hk : ∃ k : Nat, k < 4 ∧ R.told = nI k) (hr : Rel W D) (hl : W.live) (ht : W.time = 0) : ∃ X, f_X8_readKeeper (mP x m (sS R0 N (nI R.pos) 0 (-1) ns R.told D)) m = some (mP x m X) ∧ oc R0 N R.pos (readKeeper T R W) X := by
  have n1 := num_e (lo := 0) (hi := 1) (l := 0) (u := 1) (by decide) (by decide) hN hB (by decide) (by decide) hR hp x m (-1) ns R.told D
  unfold readKeeper
  dsimp only
  generalize R.num T 0 1 = y at n1 ⊢
  rcases n1 with ⟨y1, ⟨s, -, hs, yv⟩, yt, yl, yp, yq, f1⟩ | ⟨y1, y2, q, ns', f1⟩
  · rw [if_neg y1]
    have hs2 : s < 2 := by omega
    have rk := hr.kp hs2
    have k8 := rk.1
    have sAt : f_X8_stationAt y.1 + 0 = nI (42 + 17 * s) := by rw [yv, stAt, show (0 : Int32) = nI 0 by decide, nI_add]; rfl
    have ld : g_ald (mP x m (sS R0 N (nI y.2.pos) 0 (-1) (nI y.2.tok) R.told D)) (m + 3) (f_X8_stationAt y.1 + 0) = some (nI (W.kp y.1).told) := by
      rw [sL sAt (by omega), rk.2.1, yv]
    have is8 : (nI (W.kp y.1).told = 8) ↔ 8 ≤ (W.kp y.1).told := by
      rw [show (8 : Int32) = nI 8 by decide, nI_eq (by rw [yv]; omega) (by decide), yv]
      omega
    by_cases c : 8 ≤ (W.kp y.1).told
    · rw [if_pos c]
      refine ⟨sS R0 N (nI y.2.pos) (-5) (nI y.2.tok) (nI y.2.tok) R.told D, ?_, oc_f ⟨by show (-5 : Int32) ≠ 0; decide, _, _, _, _, rfl⟩⟩
      simp only [f_X8_readKeeper, sI, cond_true, f1, Option.bind_some, good_0, z10', if_false, sG_draft, ld, is8, c, if_true, sG_ns, rep_0, k40_1 (show ¬ (-5 : Int32) = 0 by decide)]
    · rw [if_neg c]
      have pre : f_X8_readKeeper (mP x m (sS R0 N (nI R.pos) 0 (-1) ns R.told D)) m = f_X8_readKeeper_b40 (mP x m (sS R0 N (nI y.2.pos) 0 (-1) (nI y.2.tok) R.told D)) m y.1 := by
        simp only [f_X8_readKeeper, sI, cond_true, f1, Option.bind_some, good_0, z10', if_false, sG_draft, ld, is8, c]
      rw [pre]
      have n2 := num_e (lo := 0) (hi := 9999) (l := 0) (u := 9999) (by decide) (by decide) hN hB (by decide) (by decide) yl yq x m (-1) (nI y.2.tok) R.told D
      generalize y.2.num T 0 9999 = z at n2 ⊢
      rcases n2 with ⟨z1, ⟨w, -, hw, zv⟩, zt, zl, zp, zq, f2⟩ | ⟨z1, z2, q, ns', f2⟩
      · rw [if_neg z1]
        have kA : ∀ (p e o ns tc : Int32), f_X8_keeperAt (mP x m (sS R0 N p e o ns tc D)) (m + 3) y.1 z.1 = some (oI ((W.kp y.1).place z.1)) := fun p e o ns tc => by
          rw [yv]
          exact s_rowV (f := fun h p => f_X8_keeperAt h p (nI s) z.1) (keeperAt_r hs2 rk z.1)
        cases ep : (W.kp y.1).place z.1 with
        | some i =>
          rw [if_pos (show (some i).isSome = true from rfl)]
          have hi := fnd_some (show fnd (fun i => (W.kp y.1).ticks i = z.1) (W.kp y.1).told 0 = some i from ep)
          have ni : ¬ oI (some i) = -1 := by rw [oI_some]; exact nI_neN (by omega)
          refine ⟨sS R0 N (nI z.2.pos) (-4) (nI z.2.tok) (nI z.2.tok) R.told D, ?_, oc_f ⟨by show (-4 : Int32) ≠ 0; decide, _, _, _, _, rfl⟩⟩
          simp only [f_X8_readKeeper_b40, sI, cond_true, f2, Option.bind_some, good_0, z10', if_false, sG_draft, kA, ep, ni, sG_ns, rep_0, k79_1 (show ¬ (-4 : Int32) = 0 by decide)]
        | none =>
          rw [if_neg (fun z => nomatch z)]
          have pre2 : f_X8_readKeeper_b40 (mP x m (sS R0 N (nI y.2.pos) 0 (-1) (nI y.2.tok) R.told D)) m y.1 = f_X8_readKeeper_b79 (mP x m (sS R0 N (nI z.2.pos) 0 (-1) (nI z.2.tok) R.told D)) m y.1 z.1 := by
            simp only [f_X8_readKeeper_b40, sI, cond_true, f2, Option.bind_some, good_0, z10', if_false, sG_draft, kA, ep, oI_none, if_true]
          rw [pre2]
          have n3 := num_e (lo := 0) (hi := 25) (l := 0) (u := 25) (by decide) (by decide) hN hB (by decide) (by decide) zl zq x m (-1) (nI z.2.tok) R.told D
          generalize z.2.num T 0 25 = u at n3 ⊢
          rcases n3 with ⟨u1, ⟨q, -, hq, uv⟩, ut, ul, up', uq, f3⟩ | ⟨u1, u2, q, ns', f3⟩
          · rw [if_neg u1]
            obtain ⟨D', d1, d2, d3⟩ := addKeeper_r (x := mP x m (sS R0 N (nI u.2.pos) 0 (-1) (nI u.2.tok) R.told D)) (p := m + 3) hs2 rk (t := z.1) (k := u.1) (by rw [← yv]; omega) (by rw [← yv]; exact ep) ⟨w, by omega, zv⟩ ⟨q, by omega, uv⟩
            have d1' := s_row (f := fun x p => f_X8_addKeeper x p (nI s) z.1 u.1) d1
            have d1'' : f_X8_addKeeper (mP x m (sS R0 N (nI u.2.pos) 0 (-1) (nI u.2.tok) R.told D)) (m + 3) y.1 z.1 u.1 = some (mP x m (sS R0 N (nI u.2.pos) 0 (-1) (nI u.2.tok) R.told D')) := by rw [yv]; exact d1'
            have et : u.2.told = R.told := by rw [ut, zt, yt]
            obtain ⟨t1, t2, t3, t4, t5, t6, t7, t8, t9, t10, t11, t12, t13⟩ := setKp_side W y.1 ((W.kp y.1).come z.1 u.1)
            refine ⟨sS R0 N (nI u.2.pos) 0 (-1) (nI u.2.tok) u.2.told D', ?_, oc_t ⟨ul, by show R.pos ≤ u.2.pos; omega, uq, by rw [et]; exact hk, ⟨_, _, rfl, ?_⟩, (fun i hi hp => by rw [t12] at hp ⊢; exact hl i (by rw [← t2]; exact hi) hp), by rw [t1]; exact ht⟩⟩
            · simp only [f_X8_readKeeper_b79, sI, cond_true, f3, Option.bind_some, good_0, z10', if_false, sG_draft, d1'', et]
            · rw [yv]
              exact hr.kept hs2 d2 d3
          · rw [if_pos u1]
            refine ⟨sS R0 N q u.2.code u.2.err ns' R.told D, ?_, oc_f ⟨u2, _, _, _, _, rfl⟩⟩
            simp only [f_X8_readKeeper_b79, sI, cond_true, f3, Option.bind_some, good_1 u2, if_true]
      · rw [if_pos z1]
        refine ⟨sS R0 N q z.2.code z.2.err ns' R.told D, ?_, oc_f ⟨z2, _, _, _, _, rfl⟩⟩
        simp only [f_X8_readKeeper_b40, sI, cond_true, f2, Option.bind_some, good_1 z2, if_true, k79_1 z2]
  · rw [if_pos y1]
    refine ⟨sS R0 N q y.2.code y.2.err ns' R.told D, ?_, oc_f ⟨y2, _, _, _, _, rfl⟩⟩
    simp only [f_X8_readKeeper, sI, cond_true, f1, Option.bind_some, good_1 y2, if_true, k40_1 y2]
/-! mist -/
theorem m19_1 (he : ¬ e = 0) : f_X8_readMist_b19 (mP x m (sS R0 N p e o ns tc D)) m = some (mP x m (sS R0 N p e o ns tc D)) := by
  simp only [f_X8_readMist_b19, sI, cond_true, num_1 he, Option.bind_some, good_1 he, if_true]
theorem mi_0 (hN : N ≤ 500) (hB : ∀ i, i < N → relB (R0.buf i) (T i)) {R : RRd} (hR : R.len = N) (hp : R.pos ≤ N) {W : RW} (hk : ∃ k : Nat, k < 4 ∧ R.told = nI k) (hr : Rel W D) (hl : W.live) (ht : W.time = 0) : ∃ X, f_X8_readMist (mP x m (sS R0 N (nI R.pos) 0 (-1) ns R.told D)) m (nI R.tok) = some (mP x m X) ∧ oc R0 N R.pos (readMist T R W) X := by
  have rm := hr.mi
  have k12 := rm.1
  have ld : ∀ (p e o ns tc : Int32), g_ald (mP x m (sS R0 N p e o ns tc D)) (m + 3) 7 = some (nI W.mi.told) := fun p e o ns tc => by
    rw [sL (i := 7) (by decide) (by decide), rm.2.1]
  have is12 : (nI W.mi.told = 12) ↔ 12 ≤ W.mi.told := by
    rw [show (12 : Int32) = nI 12 by decide, nI_eq (by omega) (by decide)]
    omega
  unfold readMist
  by_cases c : 12 ≤ W.mi.told
  · rw [if_pos c]
    refine ⟨sS R0 N (nI R.pos) (-5) (nI R.tok) ns R.told D, ?_, oc_f ⟨by show (-5 : Int32) ≠ 0; decide, _, _, _, _, rfl⟩⟩
    simp only [f_X8_readMist, sG_draft, ld, Option.bind_some, is12, c, if_true, sI, cond_true, rep_0, m19_1 (show ¬ (-5 : Int32) = 0 by decide)]
  · rw [if_neg c]
    have pre : f_X8_readMist (mP x m (sS R0 N (nI R.pos) 0 (-1) ns R.told D)) m (nI R.tok) = f_X8_readMist_b19 (mP x m (sS R0 N (nI R.pos) 0 (-1) ns R.told D)) m := by
      simp only [f_X8_readMist, sG_draft, ld, Option.bind_some, is12, c, if_false]
    rw [pre]
    dsimp only
    have n1 := num_e (lo := 0) (hi := 9999) (l := 0) (u := 9999) (by decide) (by decide) hN hB (by decide) (by decide) hR hp x m (-1) ns R.told D
    generalize R.num T 0 9999 = y at n1 ⊢
    rcases n1 with ⟨y1, ⟨s, -, hs, yv⟩, yt, yl, yp, yq, f1⟩ | ⟨y1, y2, q, ns', f1⟩
    · rw [if_neg y1]
      have n2 := num_e (lo := y.1) (hi := 9999) (l := s) (u := 9999) yv (by decide) hN hB hs (by decide) yl yq x m (-1) (nI y.2.tok) R.told D
      generalize y.2.num T y.1 9999 = z at n2 ⊢
      rcases n2 with ⟨z1, -, zt, zl, zp, zq, f2⟩ | ⟨z1, z2, q, ns', f2⟩
      · rw [if_neg z1]
        have n3 := num_e (lo := 0) (hi := 9) (l := 0) (u := 9) (by decide) (by decide) hN hB (by decide) (by decide) zl zq x m (-1) (nI z.2.tok) R.told D
        generalize z.2.num T 0 9 = u at n3 ⊢
        rcases n3 with ⟨u1, -, ut, ul, up', uq, f3⟩ | ⟨u1, u2, q, ns', f3⟩
        · rw [if_neg u1]
          obtain ⟨D', d1, d2, d3⟩ := addMist_r (x := mP x m (sS R0 N (nI u.2.pos) 0 (-1) (nI u.2.tok) R.told D)) (p := m + 3) (D := D) rm (by omega) y.1 z.1 u.1
          have d1' : f_X8_addMist (mP x m (sS R0 N (nI u.2.pos) 0 (-1) (nI u.2.tok) R.told D)) (m + 3) y.1 z.1 u.1 = some (mP x m (sS R0 N (nI u.2.pos) 0 (-1) (nI u.2.tok) R.told D')) := s_row (f := fun x p => f_X8_addMist x p y.1 z.1 u.1) d1
          have et : u.2.told = R.told := by rw [ut, zt, yt]
          refine ⟨sS R0 N (nI u.2.pos) 0 (-1) (nI u.2.tok) u.2.told D', ?_, oc_t ⟨ul, by show R.pos ≤ u.2.pos; omega, uq, by rw [et]; exact hk, ⟨_, _, rfl, ?_⟩, hl, ht⟩⟩
          · simp only [f_X8_readMist_b19, sI, cond_true, f1, f2, f3, Option.bind_some, good_0, z10', if_false, sG_draft, d1', et]
          · refine hr.side (fun j j1 j2 j3 => d3 j j2 (by omega)) ⟨rfl, rfl, rfl, rfl, rfl, rfl, rfl, rfl, rfl, rfl, rfl, rfl⟩ ?_ ?_ d2
            · exact hr.k0.congr (fun j j1 j2 => d3 j (by omega) (by omega))
            · exact hr.k1.congr (fun j j1 j2 => d3 j (by omega) (by omega))
        · rw [if_pos u1]
          refine ⟨sS R0 N q u.2.code u.2.err ns' R.told D, ?_, oc_f ⟨u2, _, _, _, _, rfl⟩⟩
          simp only [f_X8_readMist_b19, sI, cond_true, f1, f2, f3, Option.bind_some, good_1 u2, if_true]
      · rw [if_pos z1]
        refine ⟨sS R0 N q z.2.code z.2.err ns' R.told D, ?_, oc_f ⟨z2, _, _, _, _, rfl⟩⟩
        simp only [f_X8_readMist_b19, sI, cond_true, f1, f2, num_1 z2, Option.bind_some, good_1 z2, if_true]
    · rw [if_pos y1]
      refine ⟨sS R0 N q y.2.code y.2.err ns' R.told D, ?_, oc_f ⟨y2, _, _, _, _, rfl⟩⟩
      simp only [f_X8_readMist_b19, sI, cond_true, f1, num_1 y2, Option.bind_some, good_1 y2, if_true]
/-! message -/
theorem b182_1 (he : ¬ e = 0) (a b c : Int32) : f_X8_readMessage_b182 (mP x m (sS R0 N p e o ns tc D)) m a b c = some (mP x m (sS R0 N p e o ns tc D)) := by
  simp only [f_X8_readMessage_b182, sI, cond_true, good_1 he, Option.bind_some, if_true]
theorem b95_1 (he : ¬ e = 0) (fuel : Nat) (hf : 0 < fuel) (a b c d : Int32) : f_X8_readMessage_b95 fuel (mP x m (sS R0 N p e o ns tc D)) m a b c 0 d = some (mP x m (sS R0 N p e o ns tc D)) := by
  obtain ⟨fu, rfl⟩ := Nat.exists_eq_succ_of_ne_zero (Nat.ne_of_gt hf)
  simp only [f_X8_readMessage_b95, f_X8_readMessage_b167, sI, cond_true, good_1 he, Option.bind_some, if_true, show ¬ (24 : Int32) < 0 by decide, if_false, b182_1 he]
theorem b18_1 (he : ¬ e = 0) : f_X8_readMessage_b18 (mP x m (sS R0 N p e o ns tc D)) m = some (mP x m (sS R0 N p e o ns tc D)) := by
  simp only [f_X8_readMessage_b18, sI, cond_true, num_1 he, good_1 he, Option.bind_some, if_true]
theorem lt_l (hN : N ≤ 500) (hB : ∀ i, i < N → relB (R0.buf i) (T i)) {c : Nat} (hc : c < 8) (l2 l3 l4 : Int32) : ∀ (d i fuel n : Nat) (D : Nat → Int32), i + d = N → d < fuel → n ≤ i → ∃ D', f_X8_readMessage_b95 fuel (mP x m (sS R0 N (nI i) 0 o ns tc D)) m l2 l3 l4 (nI n) (nI (112 + 102 * c)) = f_X8_readMessage_b167 (mP x m (sS R0 N (nI (run (fun i => 97 ≤ T i ∧ T i ≤ 122) d i)) 0 o ns tc D')) m l2 l3 l4 (nI (n + (run (fun i => 97 ≤ T i ∧ T i ≤ 122) d i - i))) ∧ (∀ g, g < 24 → n ≤ g → g < n + (run (fun i => 97 ≤ T i ∧ T i ≤ 122) d i - i) → D' (112 + 102 * c + (6 + g)) = T (i + (g - n)) - 97) ∧ ∀ j, (∀ g, n ≤ g → g < 24 → j ≠ 112 + 102 * c + (6 + g)) → D' j = D j := by
  have stop : ∀ (fu i n : Nat) (D : Nat → Int32), i < 2 ^ 31 → ¬ (97 ≤ rb R0 N i ∧ rb R0 N i ≤ 122) → f_X8_readMessage_b95 (fu + 1) (mP x m (sS R0 N (nI i) 0 o ns tc D)) m l2 l3 l4 (nI n) (nI (112 + 102 * c)) = f_X8_readMessage_b167 (mP x m (sS R0 N (nI i) 0 o ns tc D)) m l2 l3 l4 (nI n) := by
    intro fu i n D hi hd
    simp only [f_X8_readMessage_b95, sI, cond_true, good_0, Option.bind_some, z10', if_false, sG_pos, byteAt_s hN hi, f8, hd, not_false_eq_true, if_true]
  intro d
  induction d with
  | zero =>
    intro i fuel n D hi hf hn
    obtain ⟨fu, rfl⟩ := Nat.exists_eq_succ_of_ne_zero (Nat.ne_of_gt hf)
    refine ⟨D, ?_, fun g g1 g2 g3 => ?_, fun _ _ => rfl⟩
    · rw [stop fu i n D (by omega) (by rw [rb_no (by omega)]; decide), run, Nat.sub_self, Nat.add_zero]
    · rw [run] at g3
      omega
  | succ d ih =>
    intro i fuel n D hi hf hn
    obtain ⟨fu, rfl⟩ := Nat.exists_eq_succ_of_ne_zero (Nat.ne_of_gt (Nat.zero_lt_of_lt hf))
    have q := rb_in hB (lo := 97) (hi := 122) (by decide) (by decide) i
    rw [show nI 97 = (97 : Int32) by decide, show nI 122 = (122 : Int32) by decide] at q
    by_cases cc : 97 ≤ T i ∧ T i ≤ 122
    · have c8 := q.1.mpr ⟨by omega, cc⟩
      have ev := q.2 (by omega) cc
      have rl := (run_le (fun i => 97 ≤ T i ∧ T i ≤ 122) d (i + 1)).1
      have l24 : (nI n < 24) ↔ n < 24 := by rw [show (24 : Int32) = nI 24 by decide]; exact nI_ltI (by omega) (by decide)
      have rs : run (fun i => 97 ≤ T i ∧ T i ≤ 122) (d + 1) i = run (fun i => 97 ≤ T i ∧ T i ≤ 122) d (i + 1) := by rw [run, if_pos cc]
      rw [rs]
      have en : ∀ r, i + 1 ≤ r → n + (r - i) = n + 1 + (r - (i + 1)) := fun r hr => by omega
      rw [en _ rl]
      by_cases c24 : n < 24
      · have ix : nI (112 + 102 * c) + 6 + nI n = nI (112 + 102 * c + (6 + n)) := by
          rw [show (6 : Int32) = nI 6 by decide, nI_add, nI_add]
          congr 1
          omega
        have w := sW (x := x) (m := m) (R0 := R0) (N := N) (p := nI i) (e := 0) (o := o) (ns := ns) (tc := tc) (D := D) ix (by omega) (T i - 97)
        obtain ⟨D', q1, q2, q3⟩ := ih (i + 1) fu (n + 1) (upd D (112 + 102 * c + (6 + n)) (T i - 97)) (by omega) (by omega) (by omega)
        refine ⟨D', ?_, fun g g1 g2 g3 => ?_, fun j hj => ?_⟩
        · rw [← q1]
          simp only [f_X8_readMessage_b95, f_X8_readMessage_b151, sI, cond_true, good_0, Option.bind_some, z10', if_false, sG_pos, byteAt_s hN (show i < 2 ^ 31 by omega), f8, c8, cc, and_self, not_true_eq_false, l24, c24, if_true, sG_draft, ev, w, sT_pos, ← nI_succ]
        · by_cases eg : g = n
          · subst eg
            rw [q3 _ (fun g' h1 h2 => by omega), upd_at]
            rw [Nat.sub_self, Nat.add_zero]
          · rw [q2 g g1 (by omega) g3, show i + 1 + (g - (n + 1)) = i + (g - n) by omega]
        · rw [q3 j (fun g h1 h2 => hj g (by omega) h2), upd_ne (hj n (Nat.le_refl _) c24)]
      · obtain ⟨D', q1, q2, q3⟩ := ih (i + 1) fu (n + 1) D (by omega) (by omega) (by omega)
        refine ⟨D', ?_, fun g g1 g2 g3 => absurd g1 (by omega), fun j hj => q3 j (fun g h1 h2 => hj g (by omega) h2)⟩
        rw [← q1]
        simp only [f_X8_readMessage_b95, f_X8_readMessage_b151, sI, cond_true, good_0, Option.bind_some, z10', if_false, sG_pos, byteAt_s hN (show i < 2 ^ 31 by omega), f8, c8, and_self, not_true_eq_false, l24, c24, sT_pos, ← nI_succ]
    · have c8 : ¬ (97 ≤ rb R0 N i ∧ rb R0 N i ≤ 122) := fun z => cc (q.1.mp z).2
      have rs : run (fun i => 97 ≤ T i ∧ T i ≤ 122) (d + 1) i = i := by rw [run, if_neg cc]
      rw [rs]
      refine ⟨D, ?_, fun g g1 g2 g3 => absurd g3 (by omega), fun _ _ => rfl⟩
      rw [stop fu i n D (by omega) c8, Nat.sub_self, Nat.add_zero]
theorem b63_n {c : Nat} (hc : D 1 = nI c) (a b : Int32) : f_X8_readMessage_b63 (mP x m (sS R0 N p 0 o ns tc D)) m a b (-1) = some (mP x m (sS R0 N p (-2) p ns tc D)) := by
  unfold f_X8_readMessage_b63
  rw [sG_draft, Option.bind_some, sL (i := 1) (by decide) (by decide), Option.bind_some, if_pos rfl, sG_pos, Option.bind_some, sI, cond_true, rep_0, Option.bind_some]
  exact b95_1 (by decide) g_N (by unfold g_N; omega) _ _ _ _
theorem b63_y {c : Nat} (hc : D 1 = nI c) (a b : Int32) {s0 : Int32} (h0 : ¬ s0 = -1) : f_X8_readMessage_b63 (mP x m (sS R0 N p 0 o ns tc D)) m a b s0 = f_X8_readMessage_b95 g_N (mP x m (sS R0 N p 0 o ns tc D)) m a b s0 0 (nI (112 + 102 * c)) := by
  unfold f_X8_readMessage_b63
  rw [sG_draft, Option.bind_some, sL (i := 1) (by decide) (by decide), Option.bind_some, if_neg h0, hc, msAt]
theorem me_0 (hN : N ≤ 500) (hB : ∀ i, i < N → relB (R0.buf i) (T i)) {R : RRd} (hR : R.len = N) (hp : R.pos ≤ N) {W : RW} (hk : ∃ k : Nat, k < 4 ∧ R.told = nI k) (hr : Rel W D) (hl : W.live) (ht : W.time = 0) : ∃ X, f_X8_readMessage (mP x m (sS R0 N (nI R.pos) 0 (-1) ns R.told D)) m (nI R.tok) = some (mP x m X) ∧ oc R0 N R.pos (readMessage T R W) X := by
  have t8 := hr.inv.1
  have h1 : D 1 = nI W.told := hr.n.2.1
  have ld : ∀ (p e o ns tc : Int32), g_ald (mP x m (sS R0 N p e o ns tc D)) (m + 3) 1 = some (nI W.told) := fun p e o ns tc => by
    rw [sL (i := 1) (by decide) (by decide), h1]
  have is8 : (nI W.told = 8) ↔ 8 ≤ W.told := by
    rw [show (8 : Int32) = nI 8 by decide, nI_eq (by omega) (by decide)]
    omega
  unfold readMessage
  by_cases c : 8 ≤ W.told
  · rw [if_pos c]
    refine ⟨sS R0 N (nI R.pos) (-5) (nI R.tok) ns R.told D, ?_, oc_f ⟨by show (-5 : Int32) ≠ 0; decide, _, _, _, _, rfl⟩⟩
    simp only [f_X8_readMessage, sG_draft, ld, Option.bind_some, is8, c, if_true, sI, cond_true, rep_0, b18_1 (show ¬ (-5 : Int32) = 0 by decide)]
  · rw [if_neg c]
    have pre : f_X8_readMessage (mP x m (sS R0 N (nI R.pos) 0 (-1) ns R.told D)) m (nI R.tok) = f_X8_readMessage_b18 (mP x m (sS R0 N (nI R.pos) 0 (-1) ns R.told D)) m := by
      simp only [f_X8_readMessage, sG_draft, ld, Option.bind_some, is8, c, if_false]
    rw [pre]
    dsimp only
    have n1 := num_e (lo := 0) (hi := 1) (l := 0) (u := 1) (by decide) (by decide) hN hB (by decide) (by decide) hR hp x m (-1) ns R.told D
    generalize R.num T 0 1 = y at n1 ⊢
    rcases n1 with ⟨y1, ⟨s, -, hs, yv⟩, yt, yl, yp, yq, f1⟩ | ⟨y1, y2, q, ns', f1⟩
    · rw [if_neg y1]
      have n2 := num_e (lo := 0) (hi := 9) (l := 0) (u := 9) (by decide) (by decide) hN hB (by decide) (by decide) yl yq x m (-1) (nI y.2.tok) R.told D
      generalize y.2.num T 0 9 = u at n2 ⊢
      rcases n2 with ⟨u1, ⟨v, -, hv, uv⟩, ut, ul, up', uq, f2⟩ | ⟨u1, u2, q, ns', f2⟩
      · rw [if_neg u1]
        have et : u.2.told = R.told := by rw [ut, yt]
        have sp := spc_le (T := T) uq
        have wt : (u.2.word T).tok = spc T N u.2.pos := by rw [← ul]; rfl
        have wp : (u.2.word T).pos = run (fun i => 97 ≤ T i ∧ T i ≤ 122) (N - spc T N u.2.pos) (spc T N u.2.pos) := by rw [← ul]; rfl
        have wl : (u.2.word T).len = N := ul
        have wd' : (u.2.word T).told = R.told := et
        have wf : ∀ c, ((u.2.word T).fail c).code = c ∧ ((u.2.word T).fail c).err = nI (u.2.word T).tok := fun _ => ⟨rfl, rfl⟩
        generalize u.2.word T = R3 at wt wp wl wd' wf ⊢
        generalize hkk : spc T N u.2.pos = k at wt wp sp
        have rl := run_le (fun i => 97 ≤ T i ∧ T i ≤ 122) (N - k) k
        rw [← wp] at rl
        have li := (rb_in hB (lo := 97) (hi := 122) (by decide) (by decide) k).1
        rw [show nI 97 = (97 : Int32) by decide, show nI 122 = (122 : Int32) by decide] at li
        have ah := ahead_s (x := x) (m := m) (e := 0) (o := -1) (ns := nI u.2.tok) (tc := R.told) (D := D) hN hB uq
        rw [hkk] at ah
        have hd : f_X8_readMessage_b18 (mP x m (sS R0 N (nI R.pos) 0 (-1) ns R.told D)) m = if k < N ∧ 97 ≤ T k ∧ T k ≤ 122 then f_X8_readMessage_b63 (mP x m (sS R0 N (nI k) 0 (-1) (nI u.2.tok) R.told D)) m y.1 u.1 (nI k) else f_X8_readMessage_b63 (mP x m (sS R0 N (nI k) 0 (-1) (nI u.2.tok) R.told D)) m y.1 u.1 (-1) := by
          simp only [f_X8_readMessage_b18, sI, cond_true, f1, f2, Option.bind_some, good_0, z10', if_false, ah, f8, li, sG_pos]
          by_cases cc : k < N ∧ 97 ≤ T k ∧ T k ≤ 122
          · rw [if_neg (fun z => z cc), if_pos cc]
          · rw [if_pos cc, if_neg cc]
        rw [hd]
        by_cases cc : k < N ∧ 97 ≤ T k ∧ T k ≤ 122
        · rw [if_pos cc]
          have gt : k + 1 ≤ R3.pos := by
            rw [wp]
            obtain ⟨d, hd'⟩ : ∃ d, N - k = d + 1 := ⟨N - k - 1, by omega⟩
            rw [hd', run, if_pos cc.2]
            exact (run_le _ d (k + 1)).1
          rw [if_neg (show ¬ R3.pos = R3.tok by omega), b63_y h1 y.1 u.1 (nI_neN (by omega))]
          obtain ⟨D1, q1, q2, q3⟩ := lt_l (x := x) (m := m) (o := -1) (ns := nI u.2.tok) (tc := R.told) hN hB (show W.told < 8 by omega) y.1 u.1 (nI k) (N - k) k g_N 0 D (by omega) (by unfold g_N; omega) (Nat.zero_le _)
          rw [nI_0, Nat.zero_add, ← wp] at q1
          rw [q1]
          rw [← wp] at q2
          have l24 : ((24 : Int32) < nI (R3.pos - k)) ↔ 24 < R3.pos - k := by rw [show (24 : Int32) = nI 24 by decide]; exact nI_ltI (by decide) (by omega)
          have etk : R3.pos - R3.tok = R3.pos - k := by rw [wt]
          rw [etk]
          by_cases cg : 24 < R3.pos - k
          · rw [if_pos cg]
            refine ⟨sS R0 N (nI R3.pos) (-3) (nI k) (nI u.2.tok) R.told D1, ?_, oc_f ⟨by rw [(wf _).1]; decide, nI R3.pos, nI u.2.tok, R.told, D1, by rw [(wf _).1, (wf _).2, wt]⟩⟩
            simp only [f_X8_readMessage_b167, l24, cg, if_true, sI, cond_true, rep_0, Option.bind_some, b182_1 (show ¬ (-3 : Int32) = 0 by decide)]
          · rw [if_neg cg]
            have h1' : D1 1 = nI W.told := by rw [q3 1 (fun g _ _ => by omega)]; exact h1
            obtain ⟨D', d0, d1, d2, d3, d4, d5, d6, d7, d8, d9⟩ := layMessage_r (x := mP x m (sS R0 N (nI R3.pos) 0 (-1) (nI u.2.tok) R.told D1)) (p := m + 3) (D := D1) (show W.told < 8 by omega) h1' y.1 u.1 (nI (R3.pos - k))
            have d0' : f_X8_layMessage (mP x m (sS R0 N (nI R3.pos) 0 (-1) (nI u.2.tok) R.told D1)) (m + 3) y.1 u.1 (nI (R3.pos - k)) = some (mP x m (sS R0 N (nI R3.pos) 0 (-1) (nI u.2.tok) R.told D')) := s_row (f := fun x p => f_X8_layMessage x p y.1 u.1 (nI (R3.pos - k))) d0
            have lett : ∀ j, j < R3.pos - k → isL (T (k + j)) := fun j hj => run_all (fun i => 97 ≤ T i ∧ T i ≤ 122) (N - k) k (k + j) (by omega) (by rw [← wp]; omega)
            have mr := hr.msg (D' := D') hl (show W.told < 8 by omega) (s := y.1) (u := u.1) (p := k) (n := R3.pos - k) (T := T) (by omega) (by omega) (by
              rw [yv]
              have : s = 0 ∨ s = 1 := by omega
              rcases this with rfl | rfl
              · exact Or.inl rfl
              · exact Or.inr rfl) ⟨v, by omega, uv⟩ (fun j hj => isL_l (lett j hj)) d1 d2 d3 d4 d5 d6 d7 (fun g hg => ⟨fun gn' => by rw [(d8 g hg).1, q2 g hg (Nat.zero_le _) (by omega), Nat.sub_zero], (d8 g hg).2⟩) (fun j j0 j1 j2 => by rw [d9 j j1 j2, q3 j (fun g _ _ => by omega)])
            have at' : (W.addMsg y.1 u.1 T k (R3.pos - k)).time = 0 := by unfold RW.addMsg; rw [if_pos (by omega)]; exact ht
            rw [wt]
            refine ⟨sS R0 N (nI R3.pos) 0 (-1) (nI u.2.tok) R3.told D', ?_, oc_t ⟨wl, by omega, by omega, by rw [wd']; exact hk, ⟨_, _, rfl, mr.1⟩, mr.2, at'⟩⟩
            simp only [f_X8_readMessage_b167, f_X8_readMessage_b182, l24, cg, if_false, sI, cond_true, good_0, z10', Option.bind_some, sG_draft, d0', wd']
        · rw [if_neg cc]
          have e0 : R3.pos = R3.tok := by
            rw [wt, wp]
            by_cases c0 : k < N
            · obtain ⟨d, hd'⟩ : ∃ d, N - k = d + 1 := ⟨N - k - 1, by omega⟩
              rw [hd', run, if_neg (fun z => cc ⟨c0, z⟩)]
            · rw [show N - k = 0 by omega]; rfl
          rw [if_pos e0]
          refine ⟨sS R0 N (nI k) (-2) (nI k) (nI u.2.tok) R.told D, b63_n h1 y.1 u.1, oc_f ⟨by rw [(wf _).1]; decide, nI k, nI u.2.tok, R.told, D, by rw [(wf _).1, (wf _).2, wt]⟩⟩
      · rw [if_pos u1]
        refine ⟨sS R0 N q u.2.code u.2.err ns' R.told D, ?_, oc_f ⟨u2, _, _, _, _, rfl⟩⟩
        simp only [f_X8_readMessage_b18, sI, cond_true, f1, f2, Option.bind_some, good_1 u2, if_true]
    · rw [if_pos y1]
      refine ⟨sS R0 N q y.2.code y.2.err ns' R.told D, ?_, oc_f ⟨y2, _, _, _, _, rfl⟩⟩
      simp only [f_X8_readMessage_b18, sI, cond_true, f1, num_1 y2, Option.bind_some, good_1 y2, if_true]
end STMT2
