/-! agrees: the class and the Line tell the same -/
theorem cmp_self (x : Int64) : lg_cmp x x = 0 := by
  unfold lg_cmp
  rw [if_neg (fun z => Int64.lt_irrefl z), if_pos rfl]
theorem count_cnt (R : RW) : R.count 0 = nI (cnt (fun j => decide ((R.ms j).phase = 0)) R.told) := up_cnt0 (fun j => (R.ms j).phase = 0) R.told
theorem served_none {R : RW} (h : R.inv) : R.servedAs (R.count 0) = none := by
  have t8 := h.1
  cases e : R.servedAs (R.count 0) with
  | none => rfl
  | some m =>
    rcases servedAs_n h (R.count 0) with ⟨i, i1, i2, i3, i4⟩ | ⟨z, -⟩
    · have lt : cnt (ahd R (urg (R.ms i)) i) R.told < cnt (fun j => decide ((R.ms j).phase = 0)) R.told := by
        refine cnt_lt (fun j hj ej => ?_) i i1 ?_ (decide_eq_true i2)
        · unfold ahd at ej
          rw [Bool.and_eq_true] at ej
          exact ej.1
        · unfold ahd
          simp
      have le := cnt_le (fun j => decide ((R.ms j).phase = 0)) R.told
      rw [count_cnt] at i3
      have := (nI_eq (by omega) (by omega)).mp i3
      omega
    · rw [e] at z
      have := servedAs_lt e
      exact absurd z (nI_neN (show m < 2 ^ 31 by omega))
section AGR
variable {G : gG} {a : Nat} {h : gH} {F : RFc} {S : RS} {D : Nat → Int32}
theorem agree_l (hf : fIs h.2 a F) (I : lnIs h S D F.now.told) (L : lnR h S D F.now) : ∀ (d k fuel : Nat), k + d = 13 → d < fuel → f_L_agrees_b71 G fuel h a S.B 1 (nI k) = some (1, h) := by
  have ok := L.2.2.1.ok
  have hs : lnP h S D = h := lnP_self L.1 I
  have gB := ln_gB (h := h) (D := D) L.1
  have tr := fun w => told_r (G := G) L w
  rw [hs] at gB tr
  intro d
  induction d with
  | zero =>
    intro k fuel hk hf'
    obtain ⟨fu, rfl⟩ := Nat.exists_eq_succ_of_ne_zero (Nat.ne_of_gt (Nat.zero_lt_of_lt hf'))
    have : k = 13 := by omega
    subst this
    rw [f_L_agrees_b71, if_neg n13]
    rfl
  | succ d ih =>
    intro k fuel hk hf'
    obtain ⟨fu, rfl⟩ := Nat.exists_eq_succ_of_ne_zero (Nat.ne_of_gt (Nat.zero_lt_of_lt hf'))
    have w : 0 ≤ nI k ∧ nI k ≤ 12 := ⟨nle (c := k) (n := 0) (Nat.zero_le k) (by omega) rfl, nge (c := k) (n := 12) (by omega) (by decide) rfl⟩
    rw [f_L_agrees_b71, if_pos (i13 (by omega)), if_neg (by decide), state_c hf ok, if_pos w, Option.bind_some]
    dsimp only
    rw [gB, cond_true, tr, Option.bind_some, if_pos rfl]
    unfold f_L_agrees_b99
    rw [← nI_succ]
    exact ih (k + 1) fu (by omega) (by omega)
theorem agrees_c (hf : fIs h.2 a F) (I : lnIs h S D F.now.told) (L : lnR h S D F.now) (ht : F.now.time < 2 ^ 31) : f_L_agrees G h a S.B = some (1, thr (thr (thr (thr h)))) := by
  have r := L.2.2.1
  have ok := r.ok
  have t8 := r.inv.1
  have hs : lnP h S D = h := lnP_self L.1 I
  have gB := ln_gB (h := h) (D := D) L.1
  have cs := checksum_r (G := G) L ht
  have ti := inState_r (G := G) L 0
  have tA := ln_talks (h := h) (D := D) L.1
  have tN := talkN_r L
  rw [hs] at gB cs ti tA tN
  have s13 : ¬ ((0 : Int32) ≤ 13 ∧ (13 : Int32) ≤ 12) := by decide
  have c2 : ¬ ((0 : Int32) ≤ 2 ∧ (2 : Int32) ≤ 1) := by decide
  have nt : ¬ (0 ≤ nI F.now.told ∧ nI F.now.told < nI F.now.told) := fun z => Int32.lt_irrefl z.2
  have e1 : f_L_state G h a 13 = some (-2000000098, thr h) := by rw [state_c hf ok, if_neg s13]
  have e2 : f_L_message G (thr h) a (nI F.now.told) 0 = some (-2000000097, thr (thr h)) := message_0 (h := thr h) hf nt
  have e3 : f_L_next G (thr (thr h)) a (F.now.count 0) = some (-2000000100, thr (thr (thr h))) := next_0 (h := thr (thr h)) hf ok (served_none r.inv)
  have e4 : f_L_channel G (thr (thr (thr h))) a 2 0 = some (-2000000097, thr (thr (thr (thr h)))) := channel_0 (h := thr (thr (thr h))) hf c2
  have tA1 : g_gA (thr h) S.B 10 1 = some S.TA := tA
  have tN1 : g_aln (thr h) S.TA = some (nI F.now.told) := tN
  have gB2 : g_is (thr (thr h)) S.B 10 = true := gB
  have ti2 : f_X10_inState G (thr (thr h)) S.B 0 = some (F.now.count 0) := by
    have t := inState_r (G := G) (h := thr (thr h)) (S := S) (D := D) (R := F.now) L 0
    have hs2 : lnP (thr (thr h)) S D = thr (thr h) := lnP_self (h := thr (thr h)) L.1 I
    rw [hs2] at t
    exact t
  have lp : f_L_agrees_b71 G 15 (thr (thr (thr (thr h)))) a S.B 1 0 = some (1, thr (thr (thr (thr h)))) := agree_l (h := thr (thr (thr (thr h)))) hf I L 13 0 15 (by decide) (by decide)
  unfold f_L_agrees
  rw [fIs_g hf, cond_true, checksum_c hf ok t8, Option.bind_some, gB, cond_true, cs, Option.bind_some, if_pos (cmp_self _), e1, Option.bind_some]
  dsimp only
  rw [if_pos rfl, tA1, Option.bind_some, tN1, Option.bind_some, e2, Option.bind_some]
  dsimp only
  rw [if_pos rfl, gB2, cond_true, ti2, Option.bind_some, e3, Option.bind_some]
  dsimp only
  rw [if_pos rfl, e4, Option.bind_some]
  dsimp only
  rw [if_pos rfl]
  exact lp
end AGR
