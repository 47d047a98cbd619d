/-! a number -/
section NUM8
variable {x : gH} {m : Nat} {R0 : RMo} {N : Nat} {T : Nat → Int32} {p e o ns tc : Int32} {D : Nat → Int32}
theorem inC {l u v c : Nat} (hl : l ≤ 9999) (hu : u ≤ 9999) (h1 : 10000 ≤ c) (h2 : c ≤ 100000000) : (nI l ≤ nI (min v c) ∧ nI (min v c) ≤ nI u) ↔ (l ≤ v ∧ v ≤ u) := by
  rw [nI_leI (by omega) (by omega), nI_leI (by omega) (by omega)]
  omega
theorem isDig_s (v : Int32) (h : gH) : f_X8_isDigit h v = some (bI (decide (48 ≤ v ∧ v ≤ 57))) := by
  unfold f_X8_isDigit
  rw [in_eq]
  cases decide (48 ≤ v ∧ v ≤ 57) <;> rfl
theorem n109_0 (v : Int32) : f_X8_number_b109 (mP x m (sS R0 N p 0 o ns tc D)) m v = some (v, mP x m (sS R0 N p 0 o ns tc D)) := by
  simp only [f_X8_number_b109, sI, cond_true, good_0, Option.bind_some, z10', if_false]
theorem n109_1 (he : ¬ e = 0) (v : Int32) : f_X8_number_b109 (mP x m (sS R0 N p e o ns tc D)) m v = some (0, mP x m (sS R0 N p e o ns tc D)) := by
  simp only [f_X8_number_b109, sI, cond_true, good_1 he, Option.bind_some, if_true]
theorem digT {T : Nat → Int32} {i : Nat} (h : 48 ≤ T i ∧ T i ≤ 57) : ∃ t : Nat, t ≤ 9 ∧ T i = nI (t + 48) := by
  obtain ⟨k, hk, e⟩ := rng (n := 57) (by decide) ⟨Int32.le_trans (by decide) h.1, h.2⟩
  have h1 := h.1
  rw [e, show (48 : Int32) = nI 48 by decide, nI_leI (by decide) (by omega)] at h1
  exact ⟨k - 48, by omega, by rw [e]; congr 1; omega⟩
theorem num_l8 (hN : N ≤ 500) (hB : ∀ i, i < N → relB (R0.buf i) (T i)) {l u : Nat} (hl : l ≤ 9999) (hu : u ≤ 9999) : ∀ (d i fuel v : Nat), i + d = N → d < fuel → ∃ v', (dig T d i (nI (min v 1000000))).2 = nI (min v' 1000000) ∧ f_X8_number_b41 fuel (mP x m (sS R0 N (nI i) 0 o ns tc D)) m (nI l) (nI u) (nI (min v 100000000)) = if l ≤ v' ∧ v' ≤ u then some (nI v', mP x m (sS R0 N (nI (dig T d i (nI (min v 1000000))).1) 0 o ns tc D)) else some (0, mP x m (sS R0 N (nI (dig T d i (nI (min v 1000000))).1) (-3) ns ns tc D)) := by
  have fin : ∀ (i v fu : Nat), i < 2 ^ 31 → ¬ (48 ≤ rb R0 N i ∧ rb R0 N i ≤ 57) → f_X8_number_b41 (fu + 1) (mP x m (sS R0 N (nI i) 0 o ns tc D)) m (nI l) (nI u) (nI (min v 100000000)) = if l ≤ v ∧ v ≤ u then some (nI v, mP x m (sS R0 N (nI i) 0 o ns tc D)) else some (0, mP x m (sS R0 N (nI i) (-3) ns ns tc D)) := by
    intro i v fu hi hd
    simp only [f_X8_number_b41, sG_pos, sI, cond_true, byteAt_s hN hi, isDig_s, decide_false, hd, bI_f, if_true, Option.bind_some, f8, inC hl hu (show 10000 ≤ 100000000 by decide) (Nat.le_refl _), sG_ns, rep_0]
    by_cases c : l ≤ v ∧ v ≤ u
    · rw [if_neg (fun z => z c), if_pos c, n109_0, show min v 100000000 = v by omega]
    · rw [if_pos c, if_neg c, n109_1 (by decide)]
  intro d
  induction d with
  | zero =>
    intro i fuel v hi hf
    obtain ⟨fu, rfl⟩ := Nat.exists_eq_succ_of_ne_zero (Nat.ne_of_gt hf)
    exact ⟨v, rfl, fin i v fu (by omega) (by rw [rb_no (by omega)]; decide)⟩
  | succ d ih =>
    intro i fuel v hi hf
    obtain ⟨fu, rfl⟩ := Nat.exists_eq_succ_of_ne_zero (Nat.ne_of_gt (Nat.zero_lt_of_lt hf))
    have q := rb_in hB (lo := 48) (hi := 57) (by decide) (by decide) i
    rw [show nI 48 = (48 : Int32) by decide, show nI 57 = (57 : Int32) by decide] at q
    by_cases c : 48 ≤ T i ∧ T i ≤ 57
    · have c8 := q.1.mpr ⟨by omega, c⟩
      have ev := q.2 (by omega) c
      obtain ⟨t, t9, et⟩ := digT c
      have c' := c
      rw [et] at c'
      obtain ⟨v', w1, w2⟩ := ih (i + 1) fu (10 * v + t) (by omega) (by omega)
      refine ⟨v', ?_, ?_⟩
      · rw [dig, if_pos c, et, min_g t9]
        exact w1
      · rw [dig, if_pos c, et, min_g t9]
        have e8 := min_c (v := v) (c := 100000000) (t := t) (by decide) (Nat.le_refl _) t9
        rw [show nI 100000000 = (100000000 : Int32) by decide] at e8
        simp only [f_X8_number_b41, sG_pos, sI, cond_true, byteAt_s hN (show i < 2 ^ 31 by omega), isDig_s, c', and_self, decide_true, bI_t, z10', if_false, Option.bind_some, ev, et, e8, sT_pos, ← nI_succ]
        exact w2
    · have c8 : ¬ (48 ≤ rb R0 N i ∧ rb R0 N i ≤ 57) := fun z => c (q.1.mp z).2
      refine ⟨v, ?_, ?_⟩
      · rw [dig, if_neg c]
      · rw [dig, if_neg c]
        exact fin i v fu (by omega) c8
theorem num_go (hN : N ≤ 500) (hB : ∀ i, i < N → relB (R0.buf i) (T i)) (lo hi : Int32) {i : Nat} (hi' : i ≤ N) : f_X8_number (mP x m (sS R0 N (nI i) 0 o ns tc D)) m lo hi = if spc T N i < N ∧ 48 ≤ T (spc T N i) ∧ T (spc T N i) ≤ 57 then f_X8_number_b41 g_N (mP x m (sS R0 N (nI (spc T N i)) 0 o (nI (spc T N i)) tc D)) m lo hi 0 else some (0, mP x m (sS R0 N (nI (spc T N i)) (-2) (nI (spc T N i)) ns tc D)) := by
  have q := (rb_in hB (lo := 48) (hi := 57) (by decide) (by decide) (spc T N i)).1
  rw [show nI 48 = (48 : Int32) by decide, show nI 57 = (57 : Int32) by decide] at q
  unfold f_X8_number
  rw [sI, cond_true, good_0, Option.bind_some, if_neg (by decide), cond_true, ahead_s hN hB hi', Option.bind_some, isDig_s, Option.bind_some]
  by_cases c : spc T N i < N ∧ 48 ≤ T (spc T N i) ∧ T (spc T N i) ≤ 57
  · rw [if_pos c, if_neg (by rw [decide_eq_true (q.mpr c)]; decide)]
    show ((g_gI (mP x m (sS R0 N (nI (spc T N i)) 0 o ns tc D)) m 8 4).bind fun v33 => (g_put (mP x m (sS R0 N (nI (spc T N i)) 0 o ns tc D)) m 8 13 (.int v33)).bind fun h36 => f_X8_number_b41 g_N h36 m lo hi 0) = _
    rw [sG_pos, Option.bind_some, sT_ns, Option.bind_some]
  · rw [if_neg c, if_pos (by rw [decide_eq_false (fun z => c (q.mp z))]; rfl)]
    show ((g_gI (mP x m (sS R0 N (nI (spc T N i)) 0 o ns tc D)) m 8 4).bind fun v23 => bif g_is (mP x m (sS R0 N (nI (spc T N i)) 0 o ns tc D)) m 8 then (f_X8_report (mP x m (sS R0 N (nI (spc T N i)) 0 o ns tc D)) m (-2) v23).bind fun h26 => some (0, h26) else none) = _
    rw [sG_pos, Option.bind_some, sI, cond_true, rep_0, Option.bind_some]
theorem num_0 (hN : N ≤ 500) (hB : ∀ i, i < N → relB (R0.buf i) (T i)) {l u : Nat} (hl : l ≤ 9999) (hu : u ≤ 9999) {R : RRd} (hR : R.len = N) (hp : R.pos ≤ N) :
    ((R.num T (nI l) (nI u)).1 ≠ -1 ∧ (∃ v : Nat, l ≤ v ∧ v ≤ u ∧ (R.num T (nI l) (nI u)).1 = nI v) ∧ (R.num T (nI l) (nI u)).2.told = R.told ∧ (R.num T (nI l) (nI u)).2.len = N ∧ R.pos ≤ (R.num T (nI l) (nI u)).2.pos ∧ (R.num T (nI l) (nI u)).2.pos ≤ N ∧ f_X8_number (mP x m (sS R0 N (nI R.pos) 0 o ns tc D)) m (nI l) (nI u) = some ((R.num T (nI l) (nI u)).1, mP x m (sS R0 N (nI (R.num T (nI l) (nI u)).2.pos) 0 o (nI (R.num T (nI l) (nI u)).2.tok) tc D))) ∨
    ((R.num T (nI l) (nI u)).1 = -1 ∧ (R.num T (nI l) (nI u)).2.code ≠ 0 ∧ ∃ q ns', f_X8_number (mP x m (sS R0 N (nI R.pos) 0 o ns tc D)) m (nI l) (nI u) = some (0, mP x m (sS R0 N q (R.num T (nI l) (nI u)).2.code (R.num T (nI l) (nI u)).2.err ns' tc D))) := by
  subst hR
  have sp := spc_le (T := T) hp
  have go := num_go (x := x) (m := m) (o := o) (ns := ns) (tc := tc) (D := D) hN hB (nI l) (nI u) hp
  have en : R.num T (nI l) (nI u) = RRd.numEnd ((R.found T).s_pos (dig T (R.len - spc T R.len R.pos) (spc T R.len R.pos) 0).1) (nI l) (nI u) (dig T (R.len - spc T R.len R.pos) (spc T R.len R.pos) 0).2 := rfl
  have tk : ∀ j, ((R.found T).s_pos j).tok = spc T R.len R.pos := fun _ => rfl
  by_cases c : spc T R.len R.pos < R.len ∧ 48 ≤ T (spc T R.len R.pos) ∧ T (spc T R.len R.pos) ≤ 57
  · rw [if_pos c] at go
    obtain ⟨v', w1, w2⟩ := num_l8 (x := x) (m := m) (o := o) (ns := nI (spc T R.len R.pos)) (tc := tc) (D := D) hN hB hl hu (R.len - spc T R.len R.pos) (spc T R.len R.pos) g_N 0 (by omega) (by unfold g_N; omega)
    rw [show nI (min 0 1000000) = (0 : Int32) by decide] at w1 w2
    rw [show nI (min 0 100000000) = (0 : Int32) by decide] at w2
    have dl : spc T R.len R.pos + 1 ≤ (dig T (R.len - spc T R.len R.pos) (spc T R.len R.pos) 0).1 := by
      obtain ⟨d, hd⟩ : ∃ d, R.len - spc T R.len R.pos = d + 1 := ⟨R.len - spc T R.len R.pos - 1, by omega⟩
      rw [hd, dig, if_pos c.2]
      exact (dig_le T d _ _).1
    have dl2 := (dig_le T (R.len - spc T R.len R.pos) (spc T R.len R.pos) 0).2
    rw [w2] at go
    generalize dig T (R.len - spc T R.len R.pos) (spc T R.len R.pos) 0 = y at *
    have np : ¬ ((R.found T).s_pos y.1).pos = ((R.found T).s_pos y.1).tok := by
      show ¬ y.1 = spc T R.len R.pos
      omega
    have e2 : R.num T (nI l) (nI u) = if l ≤ v' ∧ v' ≤ u then (nI v', (R.found T).s_pos y.1) else (-1, ((R.found T).s_pos y.1).fail (-3)) := by
      rw [en]
      unfold RRd.numEnd
      rw [if_neg np, w1]
      by_cases cr : l ≤ v' ∧ v' ≤ u
      · rw [if_pos ((inC hl hu (by decide) (by decide)).mpr cr), if_pos cr, show min v' 1000000 = v' by omega]
      · rw [if_neg (fun z => cr ((inC hl hu (by decide) (by decide)).mp z)), if_neg cr]
    by_cases cr : l ≤ v' ∧ v' ≤ u
    · rw [if_pos cr] at go e2
      rw [e2]
      left
      refine ⟨?_, ⟨v', cr.1, cr.2, rfl⟩, rfl, rfl, ?_, ?_, ?_⟩
      · show nI v' ≠ -1
        exact nI_neN (by omega)
      · show R.pos ≤ y.1
        omega
      · show y.1 ≤ R.len
        omega
      · exact go
    · rw [if_neg cr] at go e2
      rw [e2]
      right
      exact ⟨rfl, by show (-3 : Int32) ≠ 0; decide, _, _, go⟩
  · rw [if_neg c] at go
    right
    have dz : dig T (R.len - spc T R.len R.pos) (spc T R.len R.pos) 0 = (spc T R.len R.pos, 0) := by
      by_cases c0 : spc T R.len R.pos < R.len
      · obtain ⟨d, hd⟩ : ∃ d, R.len - spc T R.len R.pos = d + 1 := ⟨R.len - spc T R.len R.pos - 1, by omega⟩
        rw [hd, dig, if_neg (fun z => c ⟨c0, z⟩)]
      · rw [show R.len - spc T R.len R.pos = 0 by omega]; rfl
    have e2 : R.num T (nI l) (nI u) = (-1, ((R.found T).s_pos (spc T R.len R.pos)).fail (-2)) := by
      rw [en, dz]
      unfold RRd.numEnd
      rw [if_pos (show ((R.found T).s_pos (spc T R.len R.pos)).pos = ((R.found T).s_pos (spc T R.len R.pos)).tok from rfl)]
    rw [e2]
    exact ⟨rfl, by show (-2 : Int32) ≠ 0; decide, _, _, go⟩
end NUM8
