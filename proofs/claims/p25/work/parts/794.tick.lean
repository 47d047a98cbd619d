/-! a tick of the Line is a tick of the world -/
theorem upd_comm {f : Nat → Int32} {i j : Nat} {v w : Int32} (h : i ≠ j) : upd (upd f i v) j w = upd (upd f j w) i v := funext fun k => by
  by_cases c1 : k = j
  · subst c1; rw [upd_at, upd_ne (Ne.symm h), upd_at]
  · by_cases c2 : k = i
    · subst c2; rw [upd_ne c1, upd_at, upd_at]
    · rw [upd_ne c1, upd_ne c2, upd_ne c2, upd_ne c1]
theorem and_bI (a b : Bool) : bI a &&& bI b = bI (a && b) := by cases a <;> cases b <;> rfl
theorem fst_pos {s : Nat} (h : s < 4) : ((0 : Int32) < nI s ↔ s ≠ 0) ∧ ((1 : Int32) < nI s ↔ 1 < s) ∧ (nI s < (2 : Int32) ↔ s < 2) ∧ (nI s = (0 : Int32) ↔ s = 0) := by
  obtain rfl | rfl | rfl | rfl : s = 0 ∨ s = 1 ∨ s = 2 ∨ s = 3 := by omega
  all_goals decide
section TCK
variable {G : gG} {x : gH} {S : RS} {D : Nat → Int32} {R : RW}
theorem fst_of (L : lnR x S D R) {i f : Nat} (hi : i < R.told) (hf : f < (R.ms i).frames) : ∃ s : Nat, s < 4 ∧ (R.ms i).fst f = nI s ∧ D (112 + 102 * i + (54 + f)) = nI s := by
  have h24 := L.len24 hi
  obtain ⟨l, -, -, hM⟩ := L.inv1 hi
  obtain ⟨⟨s, s1, s2⟩, -⟩ := hM.2.2.2.2.2.2.2.2.1 f hf
  exact ⟨s, s1, s2, by rw [(L.2.2.1.ms i hi).2.2.2.2.2.2.2.2.1 f (by omega), s2]⟩
/-- the idle lamp looks for a frame -/
theorem take_l (L : lnR x S D R) {i c : Nat} (hi : i < R.told) (hc : c < 2) (hw : D (10 + 16 * c + 3) = -1) (K : gH → Nat → Int32 → Nat → Int32 → Int32 → Option (Int32 × gH)) (ov : Int32) (l2 : Nat) (l3 l4 : Int32) : ∀ (d k fuel : Nat), k + d = (R.ms i).frames → d + 1 < fuel → f_X10_ticks_b116 G K fuel (lnP x S D) S.B ov l2 l3 l4 (S.p c) (S.t i) (nI k) = match fnd (fun f => (R.ms i).fst f = 0) d k with | none => f_X10_ticks_b183 G K (lnP x S D) S.B ov l2 l3 l4 (S.p c) (S.t i) | some f => f_X10_ticks_b183 G K (lnP x S (upd (upd (upd D (10 + 16 * c + 3) (nI f)) (10 + 16 * c + 4) 0) (112 + 102 * i + (54 + f)) 1)) S.B ov l2 l3 l4 (S.p c) (S.t i) := by
  have ok := L.1
  have h24 := L.len24 hi
  have neg : ((-1 : Int32) < 0) = True := eq_true (by decide)
  intro d
  induction d with
  | zero =>
    intro k fuel hk hf
    obtain ⟨fu, rfl⟩ := Nat.exists_eq_succ_of_ne_zero (Nat.ne_of_gt (Nat.zero_lt_of_lt hf))
    simp only [f_X10_ticks_b116, tk_frames ok hi, frameN_p L hi, Option.bind_some, if_neg (nI_nlt (show (R.ms i).frames ≤ k by omega) (show k < 2 ^ 31 by omega)), fnd]
  | succ d ih =>
    intro k fuel hk hf
    obtain ⟨fu, rfl⟩ := Nat.exists_eq_succ_of_ne_zero (Nat.ne_of_gt (Nat.zero_lt_of_lt hf))
    have hk2 : k < (R.ms i).frames := by omega
    have hs : k < S.fr i := by rw [L.sfr hi]; exact hk2
    obtain ⟨s, s1, s2, s3⟩ := fst_of L hi hk2
    obtain ⟨p1, -, -, p4⟩ := fst_pos s1
    simp only [f_X10_ticks_b116, tk_frames ok hi, frameN_p L hi, Option.bind_some, if_pos (nI_lt hk2 (show (R.ms i).frames < 2 ^ 31 by omega)), lmG_work ok hc, hw, neg, if_true, frame_p L hi hk2, frG0 ok hi hs, s3, p1, f_X10_ticks_b177, ← nI_succ, fnd, s2, p4]
    by_cases c0 : s = 0
    · simp only [c0, ne_eq, not_true_eq_false, if_true, if_false, frT0 ok hi hs, lmT_work ok hc, lmT_step ok hc, Option.bind_some]
      have e1 : upd (upd (upd D (112 + 102 * i + (54 + k)) 1) (10 + 16 * c + 3) (nI k)) (10 + 16 * c + 4) 0 = upd (upd (upd D (10 + 16 * c + 3) (nI k)) (10 + 16 * c + 4) 0) (112 + 102 * i + (54 + k)) 1 := by
        rw [upd_comm (f := D) (by omega), upd_comm (by omega)]
      rw [e1]
      generalize hE : upd (upd (upd D (10 + 16 * c + 3) (nI k)) (10 + 16 * c + 4) 0) (112 + 102 * i + (54 + k)) 1 = E
      have E3 : E (10 + 16 * c + 3) = nI k := by rw [← hE, upd_ne (by omega), upd_ne (by omega), upd_at]
      have nk : ¬ nI k < 0 := nI_pos (by omega)
      obtain ⟨fu', rfl⟩ := Nat.exists_eq_succ_of_ne_zero (show fu ≠ 0 by omega)
      simp only [f_X10_ticks_b116, tk_frames ok hi, frameN_p L hi, Option.bind_some, lmG_work ok hc, E3, nk, if_false, ite_self]
    · simp only [c0, ne_eq, not_false_eq_true, if_true, if_false]
      exact ih (k + 1) fu (by omega) (by omega)
theorem busy_l (L : lnR x S D R) {i c f fu : Nat} (hi : i < R.told) (hc : c < 2) (hw : D (10 + 16 * c + 3) = nI f) (hf : f < 2 ^ 31) (K : gH → Nat → Int32 → Nat → Int32 → Int32 → Option (Int32 × gH)) (ov : Int32) (l2 : Nat) (l3 l4 : Int32) : f_X10_ticks_b116 G K (fu + 1) (lnP x S D) S.B ov l2 l3 l4 (S.p c) (S.t i) 0 = f_X10_ticks_b183 G K (lnP x S D) S.B ov l2 l3 l4 (S.p c) (S.t i) := by
  have ok := L.1
  simp only [f_X10_ticks_b116, tk_frames ok hi, frameN_p L hi, Option.bind_some, lmG_work ok hc, hw, if_neg (nI_pos hf), ite_self]
theorem work_r (L : lnR x S D R) {i : Nat} (e : R.way = some i) (b : Bool) (K : gH → Nat → Int32 → Nat → Int32 → Int32 → Option (Int32 × gH)) (ov : Int32) (l2 : Nat) (l3 l4 : Int32) : ∃ D', f_X10_ticks_b116 G K g_N (lnP x S D) S.B ov l2 l3 l4 (S.p (cn b)) (S.t i) 0 = f_X10_ticks_b199 G K (lnP x S D') S.B ov l2 l3 l4 (S.t i) ∧ lnR x S D' (R.work b i (R.mi.levelAt (nI R.time))) ∧ (boolD D → boolD D') := by
  have ok := L.1
  have h := L.2.2.1
  have lg := L.2.2.2
  have hit := h.inv.2.2.2.2.1 i e
  have hc := cn_lt b
  have h24 := L.len24 hit
  have c3 : D (10 + 16 * cn b + 3) = (R.ch b).frame := (h.ch b).2.2.2.1
  have nn : ¬ (0 : Int32) ≤ -1 := by decide
  by_cases c : (R.ch b).frame = -1
  · have q := took_d h e b c
    have tl := take_l (G := G) L hit hc (c3.trans c) K ov l2 l3 l4 (R.ms i).frames 0 g_N (by omega) (by unfold g_N; omega)
    rw [nI_0] at tl
    rw [tl, show fnd (fun f => (R.ms i).fst f = 0) (R.ms i).frames 0 = (R.ms i).openFrame from rfl]
    have kt := took_keep lg b i
    cases ef : (R.ms i).openFrame with
    | none =>
      rw [ef] at q
      dsimp only at q ⊢
      refine ⟨D, ?_, ?_, fun z => z⟩
      · simp only [f_X10_ticks_b183, lmG_work ok hc, c3, c, Option.bind_some, nn, if_false]
      · unfold RW.work
        rw [if_pos q.2]
        exact L.next q.1 kt
    | some f =>
      rw [ef] at q
      dsimp only at q ⊢
      obtain ⟨q0, q1, q2⟩ := q
      have nf : ¬ nI f = -1 := nI_neN (by omega)
      have q3 : ((R.took b i).ch b).frame ≠ -1 := by rw [q2]; exact nf
      have L1 := L.next q1 kt
      have ts := took_same R b i
      obtain ⟨D', s1, s2, sb⟩ := step_r (G := G) L1 (ts.1.trans e) b q3 rfl rfl
      have ks := step_keep q1 kt.1 (ts.1.trans e) b q3 (decide (((R.took b i).ch b).power < (R.took b i).mi.levelAt (nI (R.took b i).time))) (decide ((R.took b i).mi.levelAt (nI (R.took b i).time) = ((R.took b i).ch b).power))
      refine ⟨D', ?_, ?_, fun bd => sb (((bd.upd (Or.inr (by omega))).upd (Or.inl (Or.inl rfl))).upd (Or.inl (Or.inr rfl)))⟩
      · have e3 : upd (upd (upd D (10 + 16 * cn b + 3) (nI f)) (10 + 16 * cn b + 4) 0) (112 + 102 * i + (54 + f)) 1 (10 + 16 * cn b + 3) = nI f := by rw [upd_ne (by omega), upd_ne (by omega), upd_at]
        simp only [f_X10_ticks_b183, lmG_work ok hc, e3, Option.bind_some, if_pos (nI_pos' (show f < 2 ^ 31 by omega)), ln_gB ok, cond_true, s1]
      · unfold RW.work
        rw [if_neg q3]
        have L2 := L1.next s2 ks
        rw [ts.2.1, ts.2.2] at L2
        exact L2
  · have et : R.took b i = R := if_neg c
    obtain ⟨f, -, -, k1, -, -, k4, -⟩ := ((h.way.2 i e).1 b).resolve_left c
    obtain ⟨D', s1, s2, sb⟩ := step_r (G := G) L e b c rfl rfl
    have ks := step_keep h lg e b c (decide ((R.ch b).power < R.mi.levelAt (nI R.time))) (decide (R.mi.levelAt (nI R.time) = (R.ch b).power))
    refine ⟨D', ?_, ?_, sb⟩
    · have bl := busy_l (G := G) L (fu := 8191) hit hc (c3.trans k1) (by omega) K ov l2 l3 l4
      have : f_X10_ticks_b116 G K g_N (lnP x S D) S.B ov l2 l3 l4 (S.p (cn b)) (S.t i) 0 = f_X10_ticks_b116 G K (8191 + 1) (lnP x S D) S.B ov l2 l3 l4 (S.p (cn b)) (S.t i) 0 := rfl
      rw [this, bl]
      simp only [f_X10_ticks_b183, lmG_work ok hc, c3, k1, Option.bind_some, if_pos (nI_pos' (show f < 2 ^ 31 by omega)), ln_gB ok, cond_true, s1]
    · unfold RW.work
      rw [et, if_neg c]
      exact L.next s2 ks
/-- are all frames at their end -/
theorem thr_l (L : lnR x S D R) {i : Nat} (hi : i < R.told) (K : gH → Nat → Int32 → Nat → Int32 → Int32 → Option (Int32 × gH)) (ov : Int32) (l2 : Nat) (l3 l4 : Int32) : ∀ (d k fuel : Nat) (v : Bool), k + d = (R.ms i).frames → d < fuel → f_X10_ticks_b217 G K fuel (lnP x S D) S.B ov l2 l3 l4 (S.t i) (bI v) (S.t i + 4) (nI (R.ms i).frames) (nI k) = if (v && als (fun k => decide (1 < (R.ms i).fst k)) d k) = false then f_X10_ticks_b287 G K (lnP x S D) S.B ov l2 l3 l4 else f_X10_ticks_b287 G K (lnP x S (upd (upd (upd D (112 + 102 * i + 3) 2) (112 + 102 * i + 5) (D 0)) 2 (-1))) S.B (ov + 1) l2 l3 l4 := by
  have ok := L.1
  have h24 := L.len24 hi
  intro d
  induction d with
  | zero =>
    intro k fuel v hk hf
    obtain ⟨fu, rfl⟩ := Nat.exists_eq_succ_of_ne_zero (Nat.ne_of_gt hf)
    have d0 : upd D (112 + 102 * i + 3) 2 0 = D 0 := upd_ne (by omega)
    simp only [f_X10_ticks_b217, if_neg (nI_nlt (show (R.ms i).frames ≤ k by omega) (show k < 2 ^ 31 by omega)), bI_eq0, als, Bool.and_true, tkT_state ok hi, Option.bind_some, lnG_time ok, d0, tkT_ended ok hi, lnT_way ok]
  | succ d ih =>
    intro k fuel v hk hf
    obtain ⟨fu, rfl⟩ := Nat.exists_eq_succ_of_ne_zero (Nat.ne_of_gt (Nat.zero_lt_of_lt hf))
    have hk2 : k < (R.ms i).frames := by omega
    have hs : k < S.fr i := by rw [L.sfr hi]; exact hk2
    obtain ⟨s, s1, s2, s3⟩ := fst_of L hi hk2
    obtain ⟨-, p2, -, -⟩ := fst_pos s1
    have a0 := and_bI v false
    have a1 := and_bI v true
    rw [bI_f] at a0
    rw [bI_t] at a1
    simp only [f_X10_ticks_b217, if_pos (nI_lt hk2 (show (R.ms i).frames < 2 ^ 31 by omega)), frame_p L hi hk2, Option.bind_some, frG0 ok hi hs, s3, p2, f_X10_ticks_b247, ← nI_succ, als, s2]
    by_cases c1 : 1 < s
    · simp only [c1, if_true, a1, Bool.and_true, decide_true, Bool.true_and]
      exact ih (k + 1) fu v (by omega) (by omega)
    · simp only [c1, if_false, a0, Bool.and_false, decide_false, Bool.false_and]
      have := ih (k + 1) fu false (by omega) (by omega)
      simp only [Bool.false_and, if_true] at this
      exact this
theorem thr_unf (L : lnR x S D R) {i : Nat} (hi : i < R.told) : als (fun k => decide (1 < (R.ms i).fst k)) (R.ms i).frames 0 = decide ((R.ms i).unf = 0) := by
  obtain ⟨v1, v2, -⟩ := L.2.2.1.inv
  obtain ⟨l, -, -, hM⟩ := L.inv1 hi
  rw [Bool.eq_iff_iff, als_iff, decide_eq_true_eq, unf_0 hM v2]
  constructor
  · intro z f hf
    obtain ⟨s, s1, s2, -⟩ := fst_of L hi hf
    obtain ⟨-, p2, p3, -⟩ := fst_pos s1
    have := z f (Nat.zero_le _) (by omega)
    rw [decide_eq_true_eq, s2, p2] at this
    rw [s2, p3]
    omega
  · intro z f _ hf
    have hf2 : f < (R.ms i).frames := by omega
    obtain ⟨s, s1, s2, -⟩ := fst_of L hi hf2
    obtain ⟨-, p2, p3, -⟩ := fst_pos s1
    have := z f hf2
    rw [s2, p3] at this
    rw [decide_eq_true_eq, s2, p2]
    omega
theorem turn_r (L : lnR x S D R) (hl : R.live) (ht : R.time < 2 ^ 31) (b : Bool) (fu : Nat) (ov : Int32) : ∃ D', f_X10_ticks_b65 G (fu + 1) (lnP x S D) S.B ov (S.B + 1) 2 (nI (cn b)) = f_X10_ticks_b65 G fu (lnP x S D') S.B (ov + bI (decide (R.way ≠ none ∧ (R.serve b (R.mi.levelAt (nI R.time))).way = none))) (S.B + 1) 2 (nI (cn b + 1)) ∧ lnR x S D' (R.serve b (R.mi.levelAt (nI R.time))) ∧ (R.serve b (R.mi.levelAt (nI R.time))).live ∧ (R.serve b (R.mi.levelAt (nI R.time))).mi = R.mi ∧ (R.serve b (R.mi.levelAt (nI R.time))).time = R.time ∧ (boolD D → boolD D') := by
  have ok := L.1
  have h := L.2.2.1
  have hc := cn_lt b
  have n2 : D 2 = oI R.way := h.n.2.2.1
  have n0 := h.n.1
  have hlt : nI (cn b) < 2 := by cases b <;> decide
  have nn : ¬ (0 : Int32) ≤ -1 := by decide
  cases e : R.way with
  | none =>
    rw [serve_way e]
    refine ⟨D, ?_, L, hl, rfl, rfl, fun z => z⟩
    rw [e] at n2
    simp only [f_X10_ticks_b65, hlt, if_true, lamp_p L hc, lnG_way ok, n2, oI_none, Option.bind_some, nn, if_false, f_X10_ticks_b287, ← nI_succ, ne_eq, not_true_eq_false, false_and, decide_false, bI_f, Int32.add_zero]
  | some i =>
    obtain ⟨v1, v2, v3, ⟨l, l1, l2, l3, l4⟩, v5, v6⟩ := h.inv
    have hit := v5 i e
    have hi : i < 8 := by omega
    rw [e] at n2
    have op := isOpen_r (G := G) L b ht
    rw [serve_work e (hl.on h.inv e)]
    cases c : (R.ch b).isOpen (nI R.time) with
    | false =>
      rw [if_neg (by decide)]
      refine ⟨D, ?_, L, hl, rfl, rfl, fun z => z⟩
      rw [c] at op
      have nw : ¬ (some i ≠ none ∧ R.way = none) := fun z => by rw [e] at z; exact nomatch z.2
      simp only [f_X10_ticks_b65, hlt, if_true, lamp_p L hc, lnG_way ok, n2, oI_some, Option.bind_some, if_pos (nI_pos' (show i < 2 ^ 31 by omega)), lnG_time ok, n0, ln_gp ok hc, cond_true, op, bI_f, f_X10_ticks_b287, ← nI_succ, decide_eq_false nw, Int32.add_zero]
    | true =>
      simp only [if_true]
      rw [c] at op
      have z10 : ((1 : Int32) = 0) = False := eq_false (by decide)
      obtain ⟨D1, q1, L1, qb⟩ := work_r (G := G) L e b (f_X10_ticks_b65 G fu) ov (S.B + 1) 2 (nI (cn b))
      generalize hR1 : R.work b i (R.mi.levelAt (nI R.time)) = R1 at L1
      have q2 := L1.2.2.1
      obtain ⟨ws1, ws2, ws3⟩ := work_same R b i (R.mi.levelAt (nI R.time))
      rw [hR1] at ws1 ws2 ws3
      have e1 : R1.way = some i := ws1.trans e
      have hit' := q2.inv.2.2.2.2.1 i e1
      have h24 := L1.len24 hit'
      have th := thr_l (G := G) L1 hit' (f_X10_ticks_b65 G fu) ov (S.B + 1) 2 (nI (cn b)) (R1.ms i).frames 0 g_N true (by omega) (by unfold g_N; omega)
      rw [thr_unf L1 hit', Bool.true_and, bI_t, nI_0] at th
      have fs := fin_same R1 i
      have go : f_X10_ticks_b65 G (fu + 1) (lnP x S D) S.B ov (S.B + 1) 2 (nI (cn b)) = f_X10_ticks_b199 G (f_X10_ticks_b65 G fu) (lnP x S D1) S.B ov (S.B + 1) 2 (nI (cn b)) (S.t i) := by
        rw [← q1]
        simp only [f_X10_ticks_b65, hlt, if_true, lamp_p L hc, lnG_way ok, n2, oI_some, Option.bind_some, if_pos (nI_pos' (show i < 2 ^ 31 by omega)), lnG_time ok, n0, ln_gp ok hc, cond_true, op, bI_t, z10, if_false, ln_talks ok, talk_p L hit]
      have go2 : f_X10_ticks_b199 G (f_X10_ticks_b65 G fu) (lnP x S D1) S.B ov (S.B + 1) 2 (nI (cn b)) (S.t i) = if decide ((R1.ms i).unf = 0) = false then f_X10_ticks_b287 G (f_X10_ticks_b65 G fu) (lnP x S D1) S.B ov (S.B + 1) 2 (nI (cn b)) else f_X10_ticks_b287 G (f_X10_ticks_b65 G fu) (lnP x S (upd (upd (upd D1 (112 + 102 * i + 3) 2) (112 + 102 * i + 5) (D1 0)) 2 (-1))) S.B (ov + 1) (S.B + 1) 2 (nI (cn b)) := by
        rw [← th]
        simp only [f_X10_ticks_b199, tk_frames ok hit, frameN_p L1 hit', Option.bind_some]
      by_cases u : (R1.ms i).unf = 0
      · rw [decide_eq_true u] at go2
        simp only [Bool.true_eq_false, if_false] at go2
        have qf := fin_d q2 e1 u
        have ef : R1.fin i = RW.mk R1.time R1.told none R1.fsize R1.limit R1.sent R1.lost R1.garbled R1.given R1.no R1.c0 R1.c1 R1.k0 R1.k1 R1.mi (updM R1.ms i (((R1.ms i).s_phase 2).s_ended (nI R1.time))) := if_pos u
        have yw : some i ≠ none ∧ (R1.fin i).way = none := ⟨(fun z => nomatch z), by rw [ef]; rfl⟩
        refine ⟨_, ?_, L1.next qf (fin_keep L1.2.2.2 i), ?_, fs.1.trans ws2, fs.2.trans ws3, fun bd => (((qb bd).upd (Or.inr (by omega))).upd (Or.inr (by omega))).upd (Or.inr (by omega))⟩
        · rw [go, go2, decide_eq_true yw]
          simp only [f_X10_ticks_b287, ← nI_succ, bI_t]
        · intro j hj hp
          rw [ef] at hp hj ⊢
          by_cases cj : j = i
          · subst cj
            have hp2 : (updM R1.ms j (((R1.ms j).s_phase 2).s_ended (nI R1.time)) j).phase = 0 ∨ (updM R1.ms j (((R1.ms j).s_phase 2).s_ended (nI R1.time)) j).phase = 1 := hp
            rw [updM_at] at hp2
            rcases hp2 with z | z
            · exact absurd (show (2 : Int32) = 0 from z) (by decide)
            · exact absurd (show (2 : Int32) = 1 from z) (by decide)
          · have o : updM R1.ms i (((R1.ms i).s_phase 2).s_ended (nI R1.time)) j = R.ms j := (updM_ne cj).trans (by rw [← hR1]; exact work_mo R b i _ cj)
            have hp2 : (updM R1.ms i (((R1.ms i).s_phase 2).s_ended (nI R1.time)) j).phase = 0 ∨ (updM R1.ms i (((R1.ms i).s_phase 2).s_ended (nI R1.time)) j).phase = 1 := hp
            show (updM R1.ms i (((R1.ms i).s_phase 2).s_ended (nI R1.time)) j).unf ≠ 0
            rw [o] at hp2 ⊢
            refine hl j ?_ hp2
            have : R1.told = R.told := by rw [← hR1]; exact work_told R b i _
            rw [← this]; exact hj
      · rw [decide_eq_false u] at go2
        simp only [if_true] at go2
        have ef : R1.fin i = R1 := if_neg u
        rw [ef]
        have nw : ¬ (some i ≠ none ∧ R1.way = none) := fun z => by rw [e1] at z; exact nomatch z.2
        refine ⟨D1, ?_, L1, ?_, ws2, ws3, qb⟩
        · rw [go, go2, decide_eq_false nw]
          simp only [f_X10_ticks_b287, ← nI_succ, bI_f, Int32.add_zero]
        · intro j hj hp
          by_cases cj : j = i
          · subst cj; exact u
          · have o : R1.ms j = R.ms j := by rw [← hR1]; exact work_mo R b i _ cj
            rw [o] at hp ⊢
            refine hl j ?_ hp
            have : R1.told = R.told := by rw [← hR1]; exact work_told R b i _
            rw [← this]; exact hj
theorem ends_r (L : lnR x S D R) (fu : Nat) (ov : Int32) : f_X10_ticks_b65 G (fu + 1) (lnP x S D) S.B ov (S.B + 1) 2 (nI 2) = some (ov, lnP x S (upd D 0 (nI R.time + 1))) := by
  have ok := L.1
  have nlt : ¬ nI 2 < 2 := by decide
  simp only [f_X10_ticks_b65, nlt, if_false, lnG_time ok, L.2.2.1.n.1, Option.bind_some, lnT_time ok]
theorem b54_r (L : lnR x S D R) (hl : R.live) (ht : R.time < 2 ^ 31) : ∃ D', f_X10_ticks_b54 G (lnP x S D) S.B 0 = some (bI (decide (R.way ≠ none ∧ ((R.serve false (R.mi.levelAt (nI R.time))).serve true (R.mi.levelAt (nI R.time))).way = none)), lnP x S D') ∧ lnR x S D' (((R.serve false (R.mi.levelAt (nI R.time))).serve true (R.mi.levelAt (nI R.time))).s_time (((R.serve false (R.mi.levelAt (nI R.time))).serve true (R.mi.levelAt (nI R.time))).time + 1)) ∧ ((R.serve false (R.mi.levelAt (nI R.time))).serve true (R.mi.levelAt (nI R.time))).live ∧ ((R.serve false (R.mi.levelAt (nI R.time))).serve true (R.mi.levelAt (nI R.time))).time = R.time ∧ (boolD D → boolD D') := by
  obtain ⟨D1, a1, a2, a3, a4, a5, a6⟩ := turn_r (G := G) L hl ht false 8191 0
  obtain ⟨D2, b1, b2, b3, b4, b5, b6⟩ := turn_r (G := G) a2 a3 (by rw [a5]; exact ht) true 8190 (0 + bI (decide (R.way ≠ none ∧ (R.serve false (R.mi.levelAt (nI R.time))).way = none)))
  rw [a4, a5] at b1 b2 b3 b5
  refine ⟨_, ?_, b2.next b2.2.2.1.timed (timed_keep b2.2.2.2 _), b3, b5, fun bd => (b6 (a6 bd)).upd (Or.inr (by omega))⟩
  have ok := L.1
  unfold f_X10_ticks_b54
  rw [ln_lamps ok, Option.bind_some, lampN_p L, Option.bind_some]
  have e0 : f_X10_ticks_b65 G g_N (lnP x S D) S.B 0 (S.B + 1) 2 0 = f_X10_ticks_b65 G (8191 + 1) (lnP x S D) S.B 0 (S.B + 1) 2 (nI (cn false)) := by
    have : nI (cn false) = 0 := nI_0
    rw [this]; rfl
  rw [e0, a1]
  have e1 : ∀ ov, f_X10_ticks_b65 G 8191 (lnP x S D1) S.B ov (S.B + 1) 2 (nI (cn false + 1)) = f_X10_ticks_b65 G (8190 + 1) (lnP x S D1) S.B ov (S.B + 1) 2 (nI (cn true)) := fun ov => rfl
  rw [e1, b1]
  have e2 : ∀ ov, f_X10_ticks_b65 G 8190 (lnP x S D2) S.B ov (S.B + 1) 2 (nI (cn true + 1)) = f_X10_ticks_b65 G (8189 + 1) (lnP x S D2) S.B ov (S.B + 1) 2 (nI 2) := fun ov => rfl
  rw [e2, ends_r b2]
  congr 2
  generalize hR2 : R.serve false (R.mi.levelAt (nI R.time)) = R2
  by_cases c : R.way = none
  · have : R2 = R := by rw [← hR2]; exact serve_way c
    rw [this, serve_way c, c]
    decide
  · by_cases c2 : R2.way = none
    · rw [serve_way c2]
      simp only [c, c2, ne_eq, not_false_eq_true, true_and, decide_true, not_true_eq_false, false_and, decide_false, bI_t, bI_f]
      decide
    · simp only [c, c2, ne_eq, not_false_eq_true, true_and, and_false, decide_false, bI_f, Int32.add_zero, Int32.zero_add]
theorem tick_none {R R1 : RW} (eR : (if R.way = none then R.start else R) = R1) (ew : R1.way = none) : R.tick = (none, R1.s_time (R1.time + 1)) := by
  unfold RW.tick
  dsimp only
  rw [eR]
  split
  · rfl
  · next m h => rw [ew] at h; exact nomatch h
theorem tick_some {R R1 : RW} {k : Nat} (eR : (if R.way = none then R.start else R) = R1) (ew : R1.way = some k) : R.tick = (if ((R1.serve false (R1.mi.levelAt (nI R1.time))).serve true (R1.mi.levelAt (nI R1.time))).way = none then some k else none, ((R1.serve false (R1.mi.levelAt (nI R1.time))).serve true (R1.mi.levelAt (nI R1.time))).s_time (((R1.serve false (R1.mi.levelAt (nI R1.time))).serve true (R1.mi.levelAt (nI R1.time))).time + 1)) := by
  unfold RW.tick
  dsimp only
  rw [eR]
  split
  · next h => rw [ew] at h; exact nomatch h
  · next m h =>
    rw [ew] at h
    cases h
    rfl
theorem tick_r (L : lnR x S D R) (hl : R.live) (ht : R.time < 2 ^ 31) : ∃ D', f_X10_ticks G (lnP x S D) S.B = some (bI R.tick.1.isSome, lnP x S D') ∧ lnR x S D' R.tick.2 ∧ R.tick.2.live ∧ R.tick.2.time = R.time + 1 ∧ (boolD D → boolD D') := by
  have ok := L.1
  have h := L.2.2.1
  have n2 : D 2 = oI R.way := h.n.2.2.1
  have n0 := h.n.1
  have neg : ((-1 : Int32) < 0) = True := eq_true (by decide)
  have nn : ¬ (0 : Int32) ≤ -1 := by decide
  have body : ∀ {R1 : RW} {D1 : Nat → Int32}, lnR x S D1 R1 → R1.live → R1.time = R.time → (if R.way = none then R.start else R) = R1 → ∃ D', f_X10_ticks_b54 G (lnP x S D1) S.B 0 = some (bI R.tick.1.isSome, lnP x S D') ∧ lnR x S D' R.tick.2 ∧ R.tick.2.live ∧ R.tick.2.time = R.time + 1 ∧ (boolD D1 → boolD D') := by
    intro R1 D1 L1 hl1 t1 eR
    obtain ⟨D', a1, a2, a3, a4, a5⟩ := b54_r (G := G) L1 hl1 (by rw [t1]; exact ht)
    refine ⟨D', ?_⟩
    cases ew : R1.way with
    | none =>
      rw [tick_none eR ew]
      have s1 := serve_way (b := false) (level := R1.mi.levelAt (nI R1.time)) ew
      rw [s1] at a1 a2 a3
      have s2 := serve_way (b := true) (level := R1.mi.levelAt (nI R1.time)) ew
      rw [s2] at a1 a2 a3
      refine ⟨?_, a2, a3, by rw [← t1]; rfl, a5⟩
      rw [a1, ew]; rfl
    | some k =>
      rw [tick_some eR ew]
      generalize (R1.serve false (R1.mi.levelAt (nI R1.time))).serve true (R1.mi.levelAt (nI R1.time)) = R3 at a1 a2 a3 a4 ⊢
      refine ⟨?_, a2, a3, ?_, a5⟩
      · rw [a1]
        congr 2
        by_cases c : R3.way = none
        · rw [if_pos c, decide_eq_true ⟨(by rw [ew]; exact fun z => nomatch z), c⟩]; rfl
        · rw [if_neg c, decide_eq_false (fun z => c z.2)]; rfl
      · show R3.time + 1 = _
        rw [a4, t1]
  by_cases c : R.way = none
  · have e1 : (if R.way = none then R.start else R) = R.start := if_pos c
    rw [c, oI_none] at n2
    have nx := next_r (G := G) L 0
    have q := start_d h c hl
    have ks := start_keep L.2.2.2
    have t1 : R.start.time = R.time := by
      unfold RW.start
      cases R.servedAs 0 <;> rfl
    cases es : R.servedAs 0 with
    | none =>
      rw [es] at q nx
      obtain ⟨D', a1, a2⟩ := body (L.next q.1 ks) q.2 t1 e1
      refine ⟨D', ?_, a2⟩
      have d2 : upd D 2 (-1) = D := upd_same n2
      simp only [f_X10_ticks, lnG_way ok, n2, Option.bind_some, neg, if_true, ln_gB ok, cond_true, nx, oI_none, lnT_way ok, d2, nn, if_false, a1]
    | some i =>
      rw [es] at q nx
      obtain ⟨qi, q1, q2⟩ := q
      have hi : i < 8 := by have := h.inv.1; omega
      obtain ⟨D', a1, a2, a3, a4, a5⟩ := body (L.next q1 ks) q2 t1 e1
      refine ⟨D', ?_, a2, a3, a4, fun bd => a5 (((bd.upd (Or.inr (by omega))).upd (Or.inr (by omega))).upd (Or.inr (by omega)))⟩
      have u2 : upd D 2 (nI i) 2 = nI i := upd_at _ _ _
      have u3 : upd (upd D 2 (nI i)) (112 + 102 * i + 3) 1 2 = nI i := by rw [upd_ne (by omega), upd_at]
      have d0 : upd (upd D 2 (nI i)) (112 + 102 * i + 3) 1 0 = nI R.time := by rw [upd_ne (by omega), upd_ne (by omega)]; exact n0
      simp only [f_X10_ticks, lnG_way ok, n2, Option.bind_some, neg, if_true, ln_gB ok, cond_true, nx, oI_some, lnT_way ok, u2, if_pos (nI_pos' (show i < 2 ^ 31 by omega)), ln_talks ok, talk_p L qi, tkT_state ok qi, u3, lnG_time ok, d0, tkT_began ok qi, a1]
  · have e1 : (if R.way = none then R.start else R) = R := if_neg c
    obtain ⟨i, ei⟩ := Option.ne_none_iff_exists'.mp c
    have hit := h.inv.2.2.2.2.1 i ei
    have hi : i < 8 := by have := h.inv.1; omega
    rw [ei, oI_some] at n2
    obtain ⟨D', a1, a2⟩ := body L hl rfl e1
    refine ⟨D', ?_, a2⟩
    simp only [f_X10_ticks, lnG_way ok, n2, Option.bind_some, if_neg (nI_pos (show i < 2 ^ 31 by omega)), a1]
end TCK
