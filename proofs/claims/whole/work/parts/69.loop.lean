section LOOP
variable {h : gH} {a w t : Nat} {R0 : RMo} {N : Nat} {T : Nat → Int32}
theorem w_found {R : RRd} (hR : R.w h a w t T) : (R.found T).w h a w t T := ⟨hR.1, fun W => (found_ok (hR.2 W)).1⟩
theorem w_semi {R : RRd} (hR : R.w h a w t T) (W : RW) : (R.semi T).2.w h a w t T := ⟨(semi_ok (hR.2 W)).2.1.trans hR.1, fun W => (semi_ok (hR.2 W)).1⟩
theorem w_then {y : Bool × RRd × RW} (hy : y.2.1.w h a w t T) (W : RW) : (thenSemi T y).2.1.w h a w t T := by
  unfold thenSemi
  split
  · exact w_semi hy W
  · exact hy
theorem w_statement {R : RRd} (hR : R.w h a w t T) (W : RW) : (readStatement T R W).2.1.w h a w t T := by
  have w1 := w_word hR
  unfold readStatement
  dsimp only
  split
  · exact w_then (w_channel w1 W) W
  · split
    · exact w_then (w_keeper w1 W) W
    · split
      · exact w_then (w_mist w1 W) W
      · split
        · exact w_then (w_message w1 W) W
        · exact w_fail w1 (-2)
theorem b112_1 {x : gH} {m : Nat} {p e o ns tc : Int32} {D : Nat → Int32} (he : ¬ e = 0) (fuel : Nat) (hf : 0 < fuel) : f_X8_load_b112 fuel (mP x m (sS R0 N p e o ns tc D)) m = f_X8_load_b134 (mP x m (sS R0 N p e o ns tc D)) m := by
  obtain ⟨fu, rfl⟩ := Nat.exists_eq_succ_of_ne_zero (Nat.ne_of_gt hf)
  simp only [f_X8_load_b112, sI, cond_true, good_1 he, Option.bind_some, if_true]
theorem readL_0 (J : Jo h a w t T) (hN : N ≤ 500) (hB : ∀ i, i < N → relB (R0.buf i) (T i)) : ∀ (d i fuel fu8 : Nat) (R : RRd) (W : RW), R.len = N → R.pos ≤ N → N ≤ R.pos + d → i ≤ R.pos → d < fuel → d + 1 < fu8 → R.w h a w t T → (∃ k : Nat, k < 4 ∧ R.told = nI k) → (∃ D, Rel W D) → W.live → W.time = 0 →
    ∃ (b : Bool) (S : RRd) (V : RW), f_X5_readInto_b12 fuel (rdP (wdP h w W) a R) a w (nI i) = some (bI b, rdP (wdP h w V) a S) ∧ ∀ (x : gH) (m : Nat) (ns : Int32) (D : Nat → Int32), Rel W D → ∃ X, f_X8_load_b112 fu8 (mP x m (sS R0 N (nI R.pos) 0 (-1) ns R.told D)) m = f_X8_load_b134 (mP x m X) m ∧ oc R0 N 0 (b, S, V) X := by
  intro d
  induction d with
  | zero =>
    intro i fuel fu8 R W hl hp hd hi hf hf8 hR hk hE hv ht
    obtain ⟨fu, rfl⟩ := Nat.exists_eq_succ_of_ne_zero (Nat.ne_of_gt hf)
    obtain ⟨f8', rfl⟩ := Nat.exists_eq_succ_of_ne_zero (Nat.ne_of_gt (Nat.zero_lt_of_lt hf8))
    have ep : R.pos = N := by omega
    have es : spc T N R.pos = N := by
      have := spc_le (T := T) hp
      omega
    have ref : ∀ (x : gH) (m : Nat) (ns : Int32) (D : Nat → Int32), f_X8_load_b112 (f8' + 1) (mP x m (sS R0 N (nI R.pos) 0 (-1) ns R.told D)) m = f_X8_load_b134 (mP x m (sS R0 N (nI N) 0 (-1) ns R.told D)) m := fun x m ns D => by
      have ah := ahead_s (x := x) (m := m) (e := 0) (o := -1) (ns := ns) (tc := R.told) (D := D) hN hB hp
      rw [es, rb_no (Nat.le_refl _)] at ah
      simp only [f_X8_load_b112, sI, cond_true, good_0, Option.bind_some, z10', if_false, ah, if_true]
    by_cases c : i < N
    · have fp : (R.found T).pos = N := by rw [← hl] at es; exact es.trans hl
      refine ⟨true, R.found T, W, ?_, fun x m ns D hr => ⟨_, ref x m ns D, oc_t ⟨hl, Nat.zero_le _, Nat.le_of_eq fp, hk, ⟨ns, D, by rw [fp]; rfl, hr⟩, hv, ht⟩⟩⟩
      have ff := found_rd (hR.2 W)
      rw [fp, hl] at ff
      simp only [f_X5_readInto_b12, rdG_len, hl, Option.bind_some, if_pos (nI_lt c (show N < 2 ^ 31 by omega)), rdP_g, cond_true, ff, Nat.lt_irrefl, decide_false, bI_f, if_true]
      rfl
    · refine ⟨true, R, W, ?_, fun x m ns D hr => ⟨_, ref x m ns D, oc_t ⟨hl, Nat.zero_le _, hp, hk, ⟨ns, D, by rw [ep], hr⟩, hv, ht⟩⟩⟩
      simp only [f_X5_readInto_b12, rdG_len, hl, Option.bind_some, if_neg (nI_nlt (show N ≤ i by omega) (show i < 2 ^ 31 by omega))]
      rfl
  | succ d ih =>
    intro i fuel fu8 R W hl hp hd hi hf hf8 hR hk hE hv ht
    obtain ⟨fu, rfl⟩ := Nat.exists_eq_succ_of_ne_zero (Nat.ne_of_gt (Nat.zero_lt_of_lt hf))
    obtain ⟨f8', rfl⟩ := Nat.exists_eq_succ_of_ne_zero (Nat.ne_of_gt (Nat.zero_lt_of_lt hf8))
    have sp := spc_le (T := T) hp
    by_cases c : spc T N R.pos < N
    · have ci : i < N := by omega
      have fp : (R.found T).pos = spc T N R.pos := by rw [← hl]; rfl
      have fl : (R.found T).len = N := hl
      have fk : ∃ k : Nat, k < 4 ∧ (R.found T).told = nI k := hk
      have ff := found_rd (hR.2 W)
      rw [fp, hl] at ff
      obtain ⟨D0, r0⟩ := hE
      have sd := statement_rd J (w_found hR) (W := W) r0.ok
      have wS := w_statement (w_found hR) W
      have st := fun (x : gH) (m : Nat) (ns : Int32) (D : Nat → Int32) (hr : Rel W D) => st_0 (R0 := R0) (D := D) hN hB fl (by rw [fp]; omega) (W := W) fk hr hv ht x m ns
      have pre : ∀ (x : gH) (m : Nat) (ns : Int32) (D : Nat → Int32) (X : RMo), f_X8_statement (mP x m (sS R0 N (nI (R.found T).pos) 0 (-1) ns (R.found T).told D)) m = some (mP x m X) → f_X8_load_b112 (f8' + 1) (mP x m (sS R0 N (nI R.pos) 0 (-1) ns R.told D)) m = f_X8_load_b112 f8' (mP x m X) m := fun x m ns D X e => by
        have ah := ahead_s (x := x) (m := m) (e := 0) (o := -1) (ns := ns) (tc := R.told) (D := D) hN hB hp
        rw [fp] at e
        have e' : f_X8_statement (mP x m (sS R0 N (nI (spc T N R.pos)) 0 (-1) ns R.told D)) m = some (mP x m X) := e
        simp only [f_X8_load_b112, sI, cond_true, good_0, Option.bind_some, z10', if_false, ah, rb_ne hB c, e']
      have cl : f_X5_readInto_b12 (fu + 1) (rdP (wdP h w W) a R) a w (nI i) = if (readStatement T (R.found T) W).1 = true then f_X5_readInto_b12 fu (rdP (wdP h w (readStatement T (R.found T) W).2.2) a (readStatement T (R.found T) W).2.1) a w (nI (i + 1)) else some (0, rdP (wdP h w (readStatement T (R.found T) W).2.2) a (readStatement T (R.found T) W).2.1) := by
        simp only [f_X5_readInto_b12, rdG_len, hl, Option.bind_some, if_pos (nI_lt ci (show N < 2 ^ 31 by omega)), rdP_g, cond_true, ff, c, decide_true, bI_t, z10', if_false, sd, ← nI_succ]
        cases (readStatement T (R.found T) W).1
        · simp only [bI_f, if_true, Bool.false_eq_true, if_false]
        · simp only [bI_t, z10', if_false, if_true]
      rw [cl]
      generalize readStatement T (R.found T) W = y at *
      obtain ⟨b, S, V⟩ := y
      cases b with
      | false =>
        refine ⟨false, S, V, by rw [if_neg (fun z => nomatch z)]; rfl, fun x m ns D hr => ?_⟩
        obtain ⟨X, e1, o1⟩ := st x m ns D hr
        obtain ⟨c1, p, ns2, tc, D2, rfl⟩ := o1.2 rfl
        refine ⟨_, (pre x m ns D _ e1).trans (b112_1 c1 f8' (by omega)), oc_f ⟨c1, p, ns2, tc, D2, rfl⟩⟩
      | true =>
        rw [if_pos rfl]
        obtain ⟨X0, e0, o0⟩ := st h 0 0 D0 r0
        obtain ⟨k1, k2, k3, k4, ⟨ns3, D3, -, k5⟩, k6, k7⟩ := o0.1 rfl
        obtain ⟨b, S', V', q1, q2⟩ := ih (i + 1) fu f8' S V k1 k3 (by rw [fp] at k2; dsimp only at k2; omega) (by rw [fp] at k2; dsimp only at k2; omega) (by omega) (by omega) wS k4 ⟨D3, k5⟩ k6 k7
        refine ⟨b, S', V', q1, fun x m ns D hr => ?_⟩
        obtain ⟨X, e1, o1⟩ := st x m ns D hr
        obtain ⟨-, -, -, -, ⟨ns4, D4, e4, k5'⟩, -, -⟩ := o1.1 rfl
        obtain ⟨X', s1, s2⟩ := q2 x m ns4 D4 k5'
        refine ⟨X', ?_, s2⟩
        rw [pre x m ns D X e1, e4]
        exact s1
    · -- no token is left
      have es : spc T N R.pos = N := by omega
      have ref : ∀ (x : gH) (m : Nat) (ns : Int32) (D : Nat → Int32), f_X8_load_b112 (f8' + 1) (mP x m (sS R0 N (nI R.pos) 0 (-1) ns R.told D)) m = f_X8_load_b134 (mP x m (sS R0 N (nI N) 0 (-1) ns R.told D)) m := fun x m ns D => by
        have ah := ahead_s (x := x) (m := m) (e := 0) (o := -1) (ns := ns) (tc := R.told) (D := D) hN hB hp
        rw [es, rb_no (Nat.le_refl _)] at ah
        simp only [f_X8_load_b112, sI, cond_true, good_0, Option.bind_some, z10', if_false, ah, if_true]
      by_cases ci : i < N
      · have fp : (R.found T).pos = N := by rw [← hl] at es; exact es.trans hl
        refine ⟨true, R.found T, W, ?_, fun x m ns D hr => ⟨_, ref x m ns D, oc_t ⟨hl, Nat.zero_le _, Nat.le_of_eq fp, hk, ⟨ns, D, by rw [fp]; rfl, hr⟩, hv, ht⟩⟩⟩
        have ff := found_rd (hR.2 W)
        rw [fp, hl] at ff
        simp only [f_X5_readInto_b12, rdG_len, hl, Option.bind_some, if_pos (nI_lt ci (show N < 2 ^ 31 by omega)), rdP_g, cond_true, ff, Nat.lt_irrefl, decide_false, bI_f, if_true]
        rfl
      · have ep : R.pos = N := by omega
        refine ⟨true, R, W, ?_, fun x m ns D hr => ⟨_, ref x m ns D, oc_t ⟨hl, Nat.zero_le _, hp, hk, ⟨ns, D, by rw [ep], hr⟩, hv, ht⟩⟩⟩
        simp only [f_X5_readInto_b12, rdG_len, hl, Option.bind_some, if_neg (nI_nlt (show N ≤ i by omega) (show i < 2 ^ 31 by omega))]
        rfl
end LOOP
