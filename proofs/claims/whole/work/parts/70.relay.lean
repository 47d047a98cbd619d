section RELAY
variable {x : gH} {m : Nat} {R0 : RMo} {N : Nat} {T : Nat → Int32} {p e o ns tc : Int32} {D : Nat → Int32} {h : gH} {a w t : Nat}
def rf8 (h : gH) (m : Nat) : Option (Int32 × gH) := (f_X8_takeWord h m 0).bind fun y65 => (if y65.1 = 0 then (g_gI y65.2 m 8 4).bind fun v75 => bif g_is y65.2 m 8 then (f_X8_report y65.2 m (-2) v75).bind fun h78 => f_X8_load_b81 h78 m else none else f_X8_load_b81 y65.2 m)
theorem rf8_t {h h1 : gH} (e : f_X8_takeWord h m 0 = some (1, h1)) : rf8 h m = f_X8_load_b81 h1 m := by
  unfold rf8
  rw [e, Option.bind_some, if_neg (by show ¬ (1 : Int32) = 0; decide)]
theorem rf8_f {h h1 h2 : gH} {v : Int32} (e : f_X8_takeWord h m 0 = some (0, h1)) (e1 : g_gI h1 m 8 4 = some v) (e2 : g_is h1 m 8 = true) (e3 : f_X8_report h1 m (-2) v = some h2) : rf8 h m = f_X8_load_b81 h2 m := by
  unfold rf8
  rw [e, Option.bind_some, if_pos rfl, e1, Option.bind_some, e2, cond_true, e3, Option.bind_some]
theorem b81_go {h h1 h2 h3 h4 : gH} {v1 v2 : Int32} (e1 : f_X8_number h m 1 8 = some (v1, h1)) (e2 : f_X8_number h1 m 1 9 = some (v2, h2)) (e3 : f_X8_layRelay h2 (m + 3) v1 v2 = some h3) (e4 : f_X8_expect h3 m 59 = some h4) (g0 : g_is h m 8 = true) (g1 : g_is h1 m 8 = true) (g2 : g_gA h2 m 8 9 = some (m + 3)) (g3 : g_is h3 m 8 = true) : f_X8_load_b81 h m = f_X8_load_b112 g_N h4 m := by
  unfold f_X8_load_b81
  generalize g_N = G
  rw [g0, cond_true, e1, Option.bind_some, g1, cond_true, e2, Option.bind_some, g2, Option.bind_some, e3, Option.bind_some, g3, cond_true, e4, Option.bind_some]
theorem lay_s (z l : Int32) : ∃ D', f_X8_layRelay (mP x m (sS R0 N p e o ns tc D)) (m + 3) z l = some (mP x m (sS R0 N p e o ns tc D')) ∧ D' 2 = -1 ∧ D' 8 = z ∧ D' 9 = l ∧ (∀ c, c < 2 → D' (10 + 16 * c) = 5 ∧ D' (10 + 16 * c + 3) = -1 ∧ D' (10 + 16 * c + 4) = -1) ∧ ∀ j, j < 928 → j ≠ 2 → j ≠ 8 → j ≠ 9 → j ≠ 10 → j ≠ 13 → j ≠ 14 → j ≠ 26 → j ≠ 29 → j ≠ 30 → D' j = 0 := by
  obtain ⟨D', d0, d1⟩ := layRelay_r (x := mP x m (sS R0 N p e o ns tc D)) (p := m + 3) (D := D) z l
  exact ⟨D', s_row (f := fun x p => f_X8_layRelay x p z l) d0, d1⟩
theorem b81_bad (he : ¬ e = 0) : ∃ D', f_X8_load_b81 (mP x m (sS R0 N p e o ns tc D)) m = f_X8_load_b112 g_N (mP x m (sS R0 N p e o ns tc D')) m := by
  obtain ⟨D', d0, -⟩ := lay_s (x := x) (m := m) (R0 := R0) (N := N) (p := p) (e := e) (o := o) (ns := ns) (tc := tc) (D := D) 0 0
  exact ⟨D', b81_go (num_1 he 1 8) (num_1 he 1 9) d0 (exp_1 he 59) sI sI sG_draft sI⟩
theorem rel_8 (hN : N ≤ 500) (hB : ∀ i, i < N → relB (R0.buf i) (T i)) {R : RRd} (hR : R.len = N) (hp : R.pos ≤ N) (h0 : R.told = 0) (W : RW) (x : gH) (m : Nat) (ns : Int32) (D : Nat → Int32) : ∃ X, rf8 (mP x m (sS R0 N (nI R.pos) 0 (-1) ns 0 D)) m = f_X8_load_b112 g_N (mP x m X) m ∧ oc R0 N 0 (readRelay T R W) X := by
  have w1 := word_0 (x := x) (m := m) (o := -1) (ns := ns) (tc := 0) (D := D) hN hB (w := 0) (by decide) hR hp (Or.inl rfl)
  have rl : (R.word T).len = N := hR
  have rt : (R.word T).told = 0 := h0
  have rk : (R.word T).tok = spc T N R.pos := by rw [← hR]; rfl
  have rp : (R.word T).pos ≤ N := by
    have sp := spc_le (T := T) hp
    have q : (R.word T).pos = run (fun i => 97 ≤ T i ∧ T i ≤ 122) (N - spc T N R.pos) (spc T N R.pos) := by rw [← hR]; rfl
    have := run_le (fun i => 97 ≤ T i ∧ T i ≤ 122) (N - spc T N R.pos) (spc T N R.pos)
    omega
  have rf : ((R.word T).fail (-2)).code = -2 ∧ ((R.word T).fail (-2)).err = nI (R.word T).tok := ⟨rfl, rfl⟩
  unfold readRelay
  dsimp only
  generalize R.word T = R1 at *
  cases t1 : R1.isTok T 0 with
  | false =>
    rw [t1] at w1
    simp only [bI_f, Bool.false_eq_true, if_false] at w1
    rw [if_neg (fun z => nomatch z)]
    obtain ⟨D', b1⟩ := b81_bad (x := x) (m := m) (R0 := R0) (N := N) (p := nI (spc T N R.pos)) (e := -2) (o := nI (spc T N R.pos)) (ns := ns) (tc := 0) (D := D) (by decide)
    exact ⟨_, (rf8_f w1 sG_pos sI (rep_0 _ _)).trans b1, oc_f ⟨by rw [rf.1]; decide, nI (spc T N R.pos), ns, 0, D', by rw [rf.1, rf.2, rk]⟩⟩
  | true =>
    rw [t1] at w1
    simp only [bI_t, if_true] at w1
    rw [if_pos rfl]
    have n1 := num_e (lo := 1) (hi := 8) (l := 1) (u := 8) (by decide) (by decide) hN hB (by decide) (by decide) rl rp x m (-1) ns 0 D
    generalize R1.num T 1 8 = y at n1 ⊢
    rcases n1 with ⟨y1, ⟨z, hz1, hz8, yv⟩, yt, yl, yp, yq, f1⟩ | ⟨y1, y2, q, ns', f1⟩
    · rw [if_neg y1]
      have n2 := num_e (lo := 1) (hi := 9) (l := 1) (u := 9) (by decide) (by decide) hN hB (by decide) (by decide) yl yq x m (-1) (nI y.2.tok) 0 D
      generalize y.2.num T 1 9 = u at n2 ⊢
      rcases n2 with ⟨u1, ⟨l, hl1, hl9, uv⟩, ut, ul, up', uq, f2⟩ | ⟨u1, u2, q, ns', f2⟩
      · rw [if_neg u1]
        obtain ⟨D', d0, d2, d8, d9, dc, dr⟩ := lay_s (x := x) (m := m) (R0 := R0) (N := N) (p := nI u.2.pos) (e := 0) (o := -1) (ns := nI u.2.tok) (tc := 0) (D := D) y.1 u.1
        have cz : y.1.toNatClampNeg = z := by rw [yv]; exact nI_clamp (by omega)
        have rc := Rel_clear W (z := z) (l := l) hz1 hz8 hl1 hl9 d2 (d8.trans yv) (d9.trans uv) dc dr
        have et : u.2.told = 0 := by rw [ut, yt, rt]
        have g : oc R0 N 0 (true, u.2, W.clear z (nI l)) (sS R0 N (nI u.2.pos) 0 (-1) (nI u.2.tok) 0 D') := oc_t ⟨ul, Nat.zero_le _, uq, ⟨0, by decide, by rw [et]; rfl⟩, ⟨nI u.2.tok, D', by rw [et], rc.1⟩, rc.2, rfl⟩
        obtain ⟨X', -, e2, o2⟩ := semi_0 hN hB g x m
        have ts : thenSemi T (true, u.2, W.clear z (nI l)) = ((u.2.semi T).1, (u.2.semi T).2, W.clear y.1.toNatClampNeg u.1) := by
          unfold thenSemi
          rw [if_pos rfl, cz, uv]
        rw [ts] at o2
        exact ⟨X', (rf8_t w1).trans (b81_go f1 f2 d0 e2 sI sI sG_draft sI), o2.mono (Nat.zero_le _)⟩
      · rw [if_pos u1]
        obtain ⟨D', d0, -⟩ := lay_s (x := x) (m := m) (R0 := R0) (N := N) (p := q) (e := u.2.code) (o := u.2.err) (ns := ns') (tc := 0) (D := D) y.1 0
        exact ⟨_, (rf8_t w1).trans (b81_go f1 f2 d0 (exp_1 u2 59) sI sI sG_draft sI), oc_f ⟨u2, _, _, _, _, rfl⟩⟩
    · rw [if_pos y1]
      obtain ⟨D', d0, -⟩ := lay_s (x := x) (m := m) (R0 := R0) (N := N) (p := q) (e := y.2.code) (o := y.2.err) (ns := ns') (tc := 0) (D := D) 0 0
      exact ⟨_, (rf8_t w1).trans (b81_go f1 (num_1 y2 1 9) d0 (exp_1 y2 59) sI sI sG_draft sI), oc_f ⟨y2, _, _, _, _, rfl⟩⟩
theorem w_relay {R : RRd} (hR : R.w h a w t T) (W : RW) : (readRelay T R W).2.1.w h a w t T := by
  have w1 := w_word hR
  have w2 := w_num w1 1 8
  have w3 := w_num w2 1 9
  have w4 := w_semi w3 W
  have w5 := w_fail w1 (-2)
  unfold readRelay
  dsimp only
  generalize (((R.word T).num T 1 8).2.num T 1 9).2.semi T = s at *
  generalize ((R.word T).num T 1 8).2.num T 1 9 = z at *
  generalize (R.word T).num T 1 8 = y at *
  by_cases c0 : (R.word T).isTok T 0 = true
  · rw [if_pos c0]
    by_cases c1 : y.1 = -1
    · rw [if_pos c1]; exact w2
    · rw [if_neg c1]
      by_cases c2 : z.1 = -1
      · rw [if_pos c2]; exact w3
      · rw [if_neg c2]; exact w4
  · rw [if_neg c0]; exact w5
theorem into_t {h0 h1 : gH} {c q : Nat} (g : g_is h0 c 5 = true) (e : f_X5_readRelay h0 c q = some (1, h1)) : f_X5_readInto h0 c q = f_X5_readInto_b12 g_N h1 c q 0 := by
  unfold f_X5_readInto
  generalize g_N = G
  rw [g, cond_true, e, Option.bind_some, if_neg (by show ¬ (1 : Int32) = 0; decide)]
theorem into_f {h0 h1 : gH} {c q : Nat} (g : g_is h0 c 5 = true) (e : f_X5_readRelay h0 c q = some (0, h1)) : f_X5_readInto h0 c q = some (0, h1) := by
  unfold f_X5_readInto
  generalize g_N = G
  rw [g, cond_true, e, Option.bind_some, if_pos rfl]
theorem into_0 (J : Jo h a w t T) (hN : N ≤ 500) (hB : ∀ i, i < N → relB (R0.buf i) (T i)) {R : RRd} (hl : R.len = N) (hp : R.pos ≤ N) (h0 : R.told = 0) (hR : R.w h a w t T) (W : RW) :
    ∃ (b : Bool) (S : RRd) (V : RW), f_X5_readInto (rdP (wdP h w W) a R) a w = some (bI b, rdP (wdP h w V) a S) ∧ ∀ (x : gH) (m : Nat) (ns : Int32) (D : Nat → Int32), ∃ X, rf8 (mP x m (sS R0 N (nI R.pos) 0 (-1) ns 0 D)) m = f_X8_load_b134 (mP x m X) m ∧ oc R0 N 0 (b, S, V) X := by
  have rr := relay_rd J hR W
  have wr := w_relay hR W
  have r8 := fun (x : gH) (m : Nat) (ns : Int32) (D : Nat → Int32) => rel_8 hN hB hl hp h0 W x m ns D
  generalize readRelay T R W = y at *
  obtain ⟨b, S, V⟩ := y
  cases b with
  | false =>
    refine ⟨false, S, V, into_f (rdP_g _ _ _) rr, fun x m ns D => ?_⟩
    obtain ⟨X, e1, o1⟩ := r8 x m ns D
    obtain ⟨c1, p, ns2, tc, D2, rfl⟩ := o1.2 rfl
    exact ⟨_, e1.trans (b112_1 c1 g_N (by unfold g_N; omega)), oc_f ⟨c1, p, ns2, tc, D2, rfl⟩⟩
  | true =>
    obtain ⟨X0, e0, o0⟩ := r8 h 0 0 (fun _ => 0)
    obtain ⟨k1, k2, k3, k4, ⟨ns3, D3, -, k5⟩, k6, k7⟩ := o0.1 rfl
    obtain ⟨b, S', V', q1, q2⟩ := readL_0 (R0 := R0) J hN hB N 0 g_N g_N S V k1 k3 (by omega) (Nat.zero_le _) (by unfold g_N; omega) (by unfold g_N; omega) wr k4 ⟨D3, k5⟩ k6 k7
    rw [nI_0] at q1
    refine ⟨b, S', V', (into_t (rdP_g _ _ _) rr).trans q1, fun x m ns D => ?_⟩
    obtain ⟨X, e1, o1⟩ := r8 x m ns D
    obtain ⟨-, -, -, -, ⟨ns4, D4, e4, k5'⟩, -, -⟩ := o1.1 rfl
    obtain ⟨X', s1, s2⟩ := q2 x m ns4 D4 k5'
    refine ⟨X', ?_, s2⟩
    rw [e1, e4]
    exact s1
end RELAY
