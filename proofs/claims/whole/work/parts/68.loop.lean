section STMT3
variable {x : gH} {m : Nat} {R0 : RMo} {N : Nat} {T : Nat → Int32} {p e o ns tc : Int32} {D : Nat → Int32}
theorem oc.mono {P P' : Nat} {y : Bool × RRd × RW} {X : RMo} (h : oc R0 N P y X) (hp : P' ≤ P) : oc R0 N P' y X := ⟨fun z => by
  obtain ⟨h1, h2, h3⟩ := h.1 z
  exact ⟨h1, by omega, h3⟩, h.2⟩
theorem st_0 (hN : N ≤ 500) (hB : ∀ i, i < N → relB (R0.buf i) (T i)) {R : RRd} (hR : R.len = N) (hp : R.pos ≤ N) {W : RW} (hk : ∃ k : Nat, k < 4 ∧ R.told = nI k) (hr : Rel W D) (hl : W.live) (ht : W.time = 0) (x : gH) (m : Nat) (ns : Int32) : ∃ X, f_X8_statement (mP x m (sS R0 N (nI R.pos) 0 (-1) ns R.told D)) m = some (mP x m X) ∧ oc R0 N (R.pos + 1) (readStatement T R W) X := by
  have sp := spc_le (T := T) hp
  have ah := ahead_s (x := x) (m := m) (e := 0) (o := -1) (ns := ns) (tc := R.told) (D := D) hN hB hp
  have wd := fun (w : Nat) (hw : w < 5) => word_0 (x := x) (m := m) (o := -1) (ns := ns) (tc := R.told) (D := D) hN hB hw hR hp (Or.inr rfl)
  have w1 := wd 1 (by decide)
  have w2 := wd 2 (by decide)
  have w3 := wd 3 (by decide)
  have w4 := wd 4 (by decide)
  have rl : (R.word T).len = N := hR
  have rt : (R.word T).told = R.told := rfl
  have rk : (R.word T).tok = spc T N R.pos := by rw [← hR]; rfl
  have rp : R.pos ≤ (R.word T).pos ∧ (R.word T).pos ≤ N := by
    have q : (R.word T).pos = run (fun i => 97 ≤ T i ∧ T i ≤ 122) (N - spc T N R.pos) (spc T N R.pos) := by rw [← hR]; rfl
    have := run_le (fun i => 97 ≤ T i ∧ T i ≤ 122) (N - spc T N R.pos) (spc T N R.pos)
    omega
  have rf : ((R.word T).fail (-2)).code = -2 ∧ ((R.word T).fail (-2)).err = nI (R.word T).tok := ⟨rfl, rfl⟩
  unfold readStatement
  dsimp only
  generalize R.word T = R1 at *
  cases t1 : R1.isTok T 1 with
  | true =>
    rw [t1] at w1
    simp only [bI_t, if_true] at w1
    rw [if_pos rfl]
    obtain ⟨X, e1, o1⟩ := ch_0 (x := x) (m := m) (ns := ns) (D := D) hN hB rl rp.2 (W := W) (by rw [rt]; exact hk) hr hl ht
    obtain ⟨X', e2, -, o2⟩ := semi_0 hN hB o1 x m
    rw [rt] at e1
    refine ⟨X', ?_, o2.mono (by omega)⟩
    simp only [f_X8_statement, sI, cond_true, ah, sG_pos, w1, Option.bind_some, z10', if_false, e1, e2]
  | false =>
    rw [t1] at w1
    simp only [bI_f, Bool.false_eq_true, if_false] at w1
    rw [if_neg (fun z => nomatch z)]
    cases t2 : R1.isTok T 2 with
    | true =>
      rw [t2] at w2
      simp only [bI_t, if_true] at w2
      rw [if_pos rfl]
      obtain ⟨X, e1, o1⟩ := kp_0 (x := x) (m := m) (ns := ns) (D := D) hN hB rl rp.2 (W := W) (by rw [rt]; exact hk) hr hl ht
      obtain ⟨X', e2, -, o2⟩ := semi_0 hN hB o1 x m
      rw [rt] at e1
      refine ⟨X', ?_, o2.mono (by omega)⟩
      simp only [f_X8_statement, sI, cond_true, ah, sG_pos, w1, w2, Option.bind_some, z10', if_false, if_true, e1, e2]
    | false =>
      rw [t2] at w2
      simp only [bI_f, Bool.false_eq_true, if_false] at w2
      rw [if_neg (fun z => nomatch z)]
      cases t3 : R1.isTok T 3 with
      | true =>
        rw [t3] at w3
        simp only [bI_t, if_true] at w3
        rw [if_pos rfl]
        obtain ⟨X, e1, o1⟩ := mi_0 (x := x) (m := m) (ns := ns) (D := D) hN hB rl rp.2 (W := W) (by rw [rt]; exact hk) hr hl ht
        obtain ⟨X', e2, -, o2⟩ := semi_0 hN hB o1 x m
        rw [rt, rk] at e1
        refine ⟨X', ?_, o2.mono (by omega)⟩
        simp only [f_X8_statement, sI, cond_true, ah, sG_pos, w1, w2, w3, Option.bind_some, z10', if_false, if_true, e1, e2]
      | false =>
        rw [t3] at w3
        simp only [bI_f, Bool.false_eq_true, if_false] at w3
        rw [if_neg (fun z => nomatch z)]
        cases t4 : R1.isTok T 4 with
        | true =>
          rw [t4] at w4
          simp only [bI_t, if_true] at w4
          rw [if_pos rfl]
          obtain ⟨X, e1, o1⟩ := me_0 (x := x) (m := m) (ns := ns) (D := D) hN hB rl rp.2 (W := W) (by rw [rt]; exact hk) hr hl ht
          obtain ⟨X', e2, -, o2⟩ := semi_0 hN hB o1 x m
          rw [rt, rk] at e1
          refine ⟨X', ?_, o2.mono (by omega)⟩
          simp only [f_X8_statement, sI, cond_true, ah, sG_pos, w1, w2, w3, w4, Option.bind_some, z10', if_false, if_true, e1, e2]
        | false =>
          rw [t4] at w4
          simp only [bI_f, Bool.false_eq_true, if_false] at w4
          rw [if_neg (fun z => nomatch z)]
          refine ⟨sS R0 N (nI (spc T N R.pos)) (-2) (nI (spc T N R.pos)) ns R.told D, ?_, oc_f ⟨by rw [rf.1]; decide, nI (spc T N R.pos), ns, R.told, D, by rw [rf.1, rf.2, rk]⟩⟩
          simp only [f_X8_statement, f_X8_statement_b83, sI, cond_true, ah, sG_pos, w1, w2, w3, w4, Option.bind_some, if_true, rep_0, exp_1 (show ¬ (-2 : Int32) = 0 by decide)]
end STMT3
