/-! what a tick does to the messages; ticks that only pass -/
theorem Rel.good {R : RW} {D : Nat → Int32} (h : Rel R D) : R.good := by
  obtain ⟨v1, v2, v3, ⟨l, l1, l2, l3, l4⟩, v5, v6⟩ := h.inv
  refine ⟨⟨v1, v5, v2, v3, h.k0.1, h.k1.1, h.mi.1, fun i hi => (l4 i hi).ok v2 v3⟩, fun i hi f hf => ?_, fun m e => ?_⟩
  · rw [(l4 i hi).1]; exact (l4 i hi).fr' v2 hf
  · have hm := v5 m e
    have key : ∀ b, (R.ch b).ok (R.ms m) := fun b => by
      rcases (h.way.2 m e).1 b with q | ⟨f, s, nb, h1, h2, h3, h4, h5, h6, -⟩
      · exact Or.inl q
      · exact Or.inr ⟨f, s, nb, h1, h2, h3, h4, by rw [(l4 m hm).1]; exact (l4 m hm).fr' v2 h4, h5, h6⟩
    exact ⟨key false, key true⟩
theorem Rel.ok {R : RW} {D : Nat → Int32} (h : Rel R D) : R.ok := h.good.ok
theorem tick_f {h : gH} {w : Nat} {R : RW} {D : Nat → Int32} (hr : Rel R D) : f_X6_letTickPass (wdP h w R) w = some (oI R.tick.1, wdP h w R.tick.2) := tick_wd hr.good hr.way.1
theorem serve_mo {R : RW} {b : Bool} {level : Int32} {k j : Nat} (e : R.way = some k) (hl : (R.ms k).unf ≠ 0) (hj : j ≠ k) : (R.serve b level).ms j = R.ms j := by
  rw [serve_work e hl]
  split
  · have : ((R.work b k level).fin k).ms j = (R.work b k level).ms j := by
      unfold RW.fin
      split
      · exact updM_ne hj
      · rfl
    rw [this, work_mo _ _ _ _ hj]
  · rfl
theorem serve_w {R : RW} {b : Bool} {level : Int32} {k : Nat} (e : R.way = some k) (hl : (R.ms k).unf ≠ 0) : (R.serve b level).way = some k ∨ ((R.serve b level).way = none ∧ ((R.serve b level).ms k).phase = 2) := by
  rw [serve_work e hl]
  split
  · have w := (work_same R b k level).1
    unfold RW.fin
    split
    · refine Or.inr ⟨rfl, ?_⟩
      show (updM _ k _ k).phase = 2
      rw [updM_at]; rfl
    · exact Or.inl (w.trans e)
  · exact Or.inl e
theorem serve_told {R : RW} {b : Bool} {level : Int32} (hl : ∀ k, R.way = some k → (R.ms k).unf ≠ 0) : (R.serve b level).told = R.told := by
  cases e : R.way with
  | none => rw [serve_way e]
  | some k =>
    rw [serve_work e (hl k e)]
    split
    · have : ((R.work b k level).fin k).told = (R.work b k level).told := by
        unfold RW.fin
        split <;> rfl
      rw [this, work_told]
    · rfl
def wt (M : RMs) : Prop := M.phase = 0 ∨ M.phase = 1
section LOOPS
variable {x : gH} {m : Nat}
/-- the message that a tick deals with -/
theorem tick_facts (hx : isM x m) {R : RW} {D : Nat → Int32} (h : Rel R D) (hl : R.live) : R.tick.2.told = R.told ∧ ((R.tick.1 = none ∧ (∀ j, j < R.told → (R.tick.2.ms j = R.ms j ∨ (wt (R.ms j) ∧ wt (R.tick.2.ms j))))) ∨ ∃ k, R.tick.1 = some k ∧ k < R.told ∧ wt (R.ms k) ∧ (R.tick.2.ms k).phase = 2 ∧ ∀ j, j ≠ k → R.tick.2.ms j = R.ms j) := by
  have body : ∀ {R1 : RW} {D1 : Nat → Int32}, Rel R1 D1 → R1.live → ∀ k, R1.way = some k → ((R1.serve false (R1.mi.levelAt (nI R1.time))).serve true (R1.mi.levelAt (nI R1.time))).told = R1.told ∧ ((((R1.serve false (R1.mi.levelAt (nI R1.time))).serve true (R1.mi.levelAt (nI R1.time))).way = some k ∧ ∀ j, j ≠ k → ((R1.serve false (R1.mi.levelAt (nI R1.time))).serve true (R1.mi.levelAt (nI R1.time))).ms j = R1.ms j) ∨ (((R1.serve false (R1.mi.levelAt (nI R1.time))).serve true (R1.mi.levelAt (nI R1.time))).way = none ∧ (((R1.serve false (R1.mi.levelAt (nI R1.time))).serve true (R1.mi.levelAt (nI R1.time))).ms k).phase = 2 ∧ ∀ j, j ≠ k → ((R1.serve false (R1.mi.levelAt (nI R1.time))).serve true (R1.mi.levelAt (nI R1.time))).ms j = R1.ms j)) := by
    intro R1 D1 h1 hl1 k e
    obtain ⟨D2, -, a2, a3, a4, a5⟩ := turn_d hx h1 hl1 false 0
    generalize hlev : R1.mi.levelAt (nI R1.time) = lev at *
    have u1 := hl1.on h1.inv e
    have t1 := serve_told (b := false) (level := lev) (R := R1) (fun k' e' => hl1.on h1.inv e')
    have t2 := serve_told (b := true) (level := lev) (R := R1.serve false lev) (fun k' e' => a3.on a2.inv e')
    refine ⟨t2.trans t1, ?_⟩
    rcases serve_w (b := false) (level := lev) e u1 with w1 | ⟨w1, p1⟩
    · have u2 := a3.on a2.inv w1
      have mo : ∀ j, j ≠ k → ((R1.serve false lev).serve true lev).ms j = R1.ms j := fun j hj => (serve_mo w1 u2 hj).trans (serve_mo e u1 hj)
      rcases serve_w (b := true) (level := lev) w1 u2 with w2 | ⟨w2, p2⟩
      · exact Or.inl ⟨w2, mo⟩
      · exact Or.inr ⟨w2, p2, mo⟩
    · rw [serve_way w1]
      exact Or.inr ⟨w1, p1, fun j hj => serve_mo e u1 hj⟩
  obtain ⟨D9, -, r9, l9⟩ := tick_d hx h hl
  have fin : ∀ {R1 : RW} {D1 : Nat → Int32}, Rel R1 D1 → R1.live → R1.told = R.told → (∀ k, R1.way = some k → wt (R.ms k) ∧ ∀ j, j ≠ k → R1.ms j = R.ms j) → (R1.way = none → R1.ms = R.ms) → R.tick = (match R1.way with
      | none => (none, R1.s_time (R1.time + 1))
      | some k => (if ((R1.serve false (R1.mi.levelAt (nI R1.time))).serve true (R1.mi.levelAt (nI R1.time))).way = none then some k else none, ((R1.serve false (R1.mi.levelAt (nI R1.time))).serve true (R1.mi.levelAt (nI R1.time))).s_time (((R1.serve false (R1.mi.levelAt (nI R1.time))).serve true (R1.mi.levelAt (nI R1.time))).time + 1))) → R.tick.2.told = R.told ∧ ((R.tick.1 = none ∧ (∀ j, j < R.told → (R.tick.2.ms j = R.ms j ∨ (wt (R.ms j) ∧ wt (R.tick.2.ms j))))) ∨ ∃ k, R.tick.1 = some k ∧ k < R.told ∧ wt (R.ms k) ∧ (R.tick.2.ms k).phase = 2 ∧ ∀ j, j ≠ k → R.tick.2.ms j = R.ms j) := by
    intro R1 D1 h1 hl1 ht hk hn et
    cases ew : R1.way with
    | none =>
      rw [ew] at et
      dsimp only at et
      rw [et]
      refine ⟨ht, Or.inl ⟨rfl, fun j _ => Or.inl ?_⟩⟩
      show R1.ms j = R.ms j
      rw [hn ew]
    | some k =>
      rw [ew] at et
      dsimp only at et
      obtain ⟨b1, b2⟩ := body h1 hl1 k ew
      obtain ⟨q1, q2⟩ := hk k ew
      have kt : k < R.told := by rw [← ht]; exact h1.inv.2.2.2.2.1 k ew
      rcases b2 with ⟨c1, c2⟩ | ⟨c1, c2, c3⟩
      · have cn : ¬ ((R1.serve false (R1.mi.levelAt (nI R1.time))).serve true (R1.mi.levelAt (nI R1.time))).way = none := by rw [c1]; exact fun z => nomatch z
        rw [if_neg cn] at et
        refine ⟨by rw [et]; exact b1.trans ht, Or.inl ⟨by rw [et], fun j hj => ?_⟩⟩
        by_cases cj : j = k
        · subst cj
          refine Or.inr ⟨q1, Or.inr ?_⟩
          have hi := r9.inv
          have hw : R.tick.2.way = some j := by rw [et]; exact c1
          exact (hi.2.2.2.2.2 j (hi.2.2.2.2.1 j hw)).mpr hw
        · refine Or.inl ?_
          rw [et]
          exact (c2 j cj).trans (q2 j cj)
      · rw [if_pos c1] at et
        refine ⟨by rw [et]; exact b1.trans ht, Or.inr ⟨k, by rw [et], kt, q1, by rw [et]; exact c2, fun j hj => ?_⟩⟩
        rw [et]
        exact (c3 j hj).trans (q2 j hj)
  by_cases c : R.way = none
  · have q := start_d h c hl
    have e1 : (if R.way = none then R.start else R) = R.start := if_pos c
    have et : R.tick = (match R.start.way with
      | none => (none, R.start.s_time (R.start.time + 1))
      | some k => (if ((R.start.serve false (R.start.mi.levelAt (nI R.start.time))).serve true (R.start.mi.levelAt (nI R.start.time))).way = none then some k else none, ((R.start.serve false (R.start.mi.levelAt (nI R.start.time))).serve true (R.start.mi.levelAt (nI R.start.time))).s_time (((R.start.serve false (R.start.mi.levelAt (nI R.start.time))).serve true (R.start.mi.levelAt (nI R.start.time))).time + 1))) := by
      unfold RW.tick
      rw [e1]
      rfl
    cases es : R.servedAs 0 with
    | none =>
      rw [es] at q
      have est : R.start = R := by
        unfold RW.start
        rw [es]
        dsimp only
        have : R.s_way none = R := by rw [← c]; rfl
        exact this
      rw [est] at q et
      exact fin h hl rfl (fun k ek => by rw [c] at ek; exact nomatch ek) (fun _ => rfl) et
    | some i =>
      rw [es] at q
      obtain ⟨q0, q1, q2⟩ := q
      obtain ⟨-, s2, ⟨s3, -⟩, -⟩ := fnd_some (show fnd (fun i => (R.ms i).phase = 0 ∧ R.before i = 0) R.told 0 = some i from es)
      have est : R.start = RW.mk R.time R.told (some i) R.fsize R.limit R.sent R.lost R.garbled R.given R.no R.c0 R.c1 R.k0 R.k1 R.mi (updM R.ms i (((R.ms i).s_phase 1).s_began (nI R.time))) := by
        unfold RW.start
        rw [es]
      refine fin q1 q2 (by rw [est]; rfl) (fun k ek => ?_) (fun z => ?_) et
      · have : k = i := by rw [est] at ek; cases ek; rfl
        subst this
        refine ⟨Or.inl s3, fun j hj => ?_⟩
        rw [est]
        exact updM_ne hj
      · rw [est] at z; exact nomatch z
  · have e1 : (if R.way = none then R.start else R) = R := if_neg c
    have et : R.tick = (match R.way with
      | none => (none, R.s_time (R.time + 1))
      | some k => (if ((R.serve false (R.mi.levelAt (nI R.time))).serve true (R.mi.levelAt (nI R.time))).way = none then some k else none, ((R.serve false (R.mi.levelAt (nI R.time))).serve true (R.mi.levelAt (nI R.time))).s_time (((R.serve false (R.mi.levelAt (nI R.time))).serve true (R.mi.levelAt (nI R.time))).time + 1))) := by
      unfold RW.tick
      rw [e1]
      rfl
    exact fin h hl rfl (fun k ek => ⟨Or.inr ((h.inv.2.2.2.2.2 k (h.inv.2.2.2.2.1 k ek)).mpr ek), fun _ _ => rfl⟩) (fun z => absurd z c) et
theorem tick_time (hx : isM x m) {R : RW} {D : Nat → Int32} (h : Rel R D) (hl : R.live) : R.tick.2.time = R.time + 1 := by
  unfold RW.tick
  have st : (if R.way = none then R.start else R).time = R.time := by
    split
    · unfold RW.start
      split <;> rfl
    · rfl
  generalize hR1 : (if R.way = none then R.start else R) = R1 at st
  have g : ∀ (R2 : RW) (b : Bool) (lev : Int32), (R2.serve b lev).time = R2.time := by
    intro R2 b lev
    unfold RW.serve
    split
    · rfl
    · rename_i k e
      split
      · have sd : ∀ R4 : RW, (R4.served b k lev).time = R4.time := by
          intro R4
          unfold RW.served
          split
          · rfl
          · exact (served2_near R4 b k _ _).1.time
        split
        · rw [sd]
          cases b <;> rfl
        · exact sd _
      · rfl
  dsimp only
  split
  · show R1.time + 1 = _
    rw [st]
  · show ((R1.serve false _).serve true _).time + 1 = _
    rw [g, g, st]
/-- ticks pass until nothing waits, at most d -/
def RW.go : Nat → RW → Nat × RW
  | 0, R => (0, R)
  | d + 1, R => if R.busy then ((RW.go d R.tick.2).1 + 1, (RW.go d R.tick.2).2) else (0, R)
/-- and only up to a message that is over and doesn't agree -/
def RW.goA : Nat → RW → Bool × RW
  | 0, R => (!R.busy, R)
  | d + 1, R => if R.busy then (match R.tick.1 with
      | none => RW.goA d R.tick.2
      | some k => if (R.tick.2.ms k).agrees then RW.goA d R.tick.2 else (false, R.tick.2)) else (true, R)
theorem busy_d (hx : isM x m) {R : RW} {D : Nat → Int32} (h : Rel R D) : f_X8_isLive (dP x m D) m = some (bI R.busy) := by
  have n2 : D 2 = oI R.way := h.n.2.2.1
  simp only [f_X8_isLive, f_X8_isLive_b18, dG hx, dI hx, cond_true, dL2, n2, way_eq h.ok, inState_d hx h, Option.bind_some, RW.busy]
  by_cases c : R.way = none
  · by_cases c2 : 0 < R.count 0
    · simp [c, c2, bI]
    · simp [c, c2, bI]
  · simp [c, bI]
theorem go_f {h : gH} {w : Nat} (hx : isM x m) : ∀ (d i fuel : Nat) (R : RW) (D : Nat → Int32), i + d = 1000 → d < fuel → Rel R D → R.live →
    f_X6_letForetoldTicksPass_b2 fuel (wdP h w R) w 0 (nI i) = some (bI (!(R.go d).2.busy), wdP h w (R.go d).2) ∧ ∃ D', f_X8_goOn_b2 fuel (dP x m D) m (nI i) = some (if (R.go d).2.busy then -1 else nI (i + (R.go d).1), dP x m D') ∧ Rel (R.go d).2 D' ∧ (R.go d).2.live ∧ (R.go d).2.time = R.time + (R.go d).1 := by
  have z0 : ((0 : Int32) = 0) = True := eq_true rfl
  intro d
  induction d with
  | zero =>
    intro i fuel R D hi hf hr hl
    obtain ⟨fu, rfl⟩ := Nat.exists_eq_succ_of_ne_zero (Nat.ne_of_gt hf)
    have c : ¬ nI i < 1000 := by rw [show (1000 : Int32) = nI 1000 by decide]; exact nI_nlt (by omega) (by omega)
    refine ⟨?_, D, ?_, hr, hl, rfl⟩
    · simp only [f_X6_letForetoldTicksPass_b2, f_X6_letForetoldTicksPass_b49, c, if_false, wdP_g, cond_true, busy_wd hr.ok, Option.bind_some, RW.go]
      rcases Bool.eq_false_or_eq_true R.busy with cb | cb
      · simp only [cb]; rfl
      · simp only [cb]; rfl
    · simp only [f_X8_goOn_b2, f_X8_goOn_b26, c, if_false, dI hx, cond_true, busy_d hx hr, Option.bind_some, RW.go]
      rcases Bool.eq_false_or_eq_true R.busy with cb | cb
      · simp only [cb]; rfl
      · simp only [cb]; rfl
  | succ d ih =>
    intro i fuel R D hi hf hr hl
    obtain ⟨fu, rfl⟩ := Nat.exists_eq_succ_of_ne_zero (Nat.ne_of_gt (Nat.zero_lt_of_lt hf))
    have c : nI i < 1000 := by rw [show (1000 : Int32) = nI 1000 by decide]; exact nI_lt (by omega) (by omega)
    simp only [f_X6_letForetoldTicksPass_b2, f_X6_letForetoldTicksPass_b49, f_X6_letForetoldTicksPass_b43, f_X8_goOn_b2, f_X8_goOn_b26, c, if_true, wdP_g, dI hx, cond_true, busy_wd hr.ok, busy_d hx hr, Option.bind_some, RW.go, bI_eq0]
    rcases (Bool.eq_false_or_eq_true R.busy).symm with cb | cb
    · simp only [if_true, Bool.false_eq_true, if_false, cb, Bool.not_false, bI_t]
      exact ⟨trivial, D, rfl, hr, hl, rfl⟩
    · obtain ⟨D', a1, a2, a3⟩ := tick_d hx hr hl
      simp only [cb, Bool.true_eq_false, if_false, if_true, tick_f hr, a1, Option.bind_some, ← nI_succ]
      obtain ⟨q1, D2, q2, q3, q4, q5⟩ := ih (i + 1) fu R.tick.2 D' (by omega) (by omega) a2 a3
      refine ⟨q1, D2, ?_, q3, q4, ?_⟩
      · rw [q2]
        congr 2
        split
        · rfl
        · congr 1; omega
      · rw [q5, tick_time hx hr hl]; omega
theorem goA_f {h : gH} {w : Nat} (hx : isM x m) : ∀ (d i fuel : Nat) (R : RW) (D : Nat → Int32), i + d = 1000 → d < fuel → Rel R D → R.live →
    f_X6_letForetoldTicksPass_b2 fuel (wdP h w R) w 1 (nI i) = some (bI (R.goA d).1, wdP h w (R.goA d).2) ∧ (R.goA d).2.told ≤ 8 := by
  have z10 : ((1 : Int32) = 0) = False := eq_false (by decide)
  intro d
  induction d with
  | zero =>
    intro i fuel R D hi hf hr hl
    obtain ⟨fu, rfl⟩ := Nat.exists_eq_succ_of_ne_zero (Nat.ne_of_gt hf)
    have c : ¬ nI i < 1000 := by rw [show (1000 : Int32) = nI 1000 by decide]; exact nI_nlt (by omega) (by omega)
    refine ⟨?_, hr.inv.1⟩
    simp only [f_X6_letForetoldTicksPass_b2, f_X6_letForetoldTicksPass_b49, c, if_false, wdP_g, cond_true, busy_wd hr.ok, Option.bind_some, RW.goA]
    cases R.busy <;> rfl
  | succ d ih =>
    intro i fuel R D hi hf hr hl
    obtain ⟨fu, rfl⟩ := Nat.exists_eq_succ_of_ne_zero (Nat.ne_of_gt (Nat.zero_lt_of_lt hf))
    have c : nI i < 1000 := by rw [show (1000 : Int32) = nI 1000 by decide]; exact nI_lt (by omega) (by omega)
    simp only [f_X6_letForetoldTicksPass_b2, f_X6_letForetoldTicksPass_b49, f_X6_letForetoldTicksPass_b43, c, if_true, wdP_g, cond_true, busy_wd hr.ok, Option.bind_some, RW.goA, bI_eq0]
    cases cb : R.busy with
    | false =>
      simp only [if_true, Bool.false_eq_true, if_false]
      exact ⟨rfl, hr.inv.1⟩
    | true =>
      obtain ⟨D', a1, a2, a3⟩ := tick_d hx hr hl
      have f := tick_facts hx hr hl
      simp only [Bool.true_eq_false, if_false, if_true, tick_f hr, Option.bind_some, z10, ← nI_succ]
      rcases f.2 with ⟨e1, -⟩ | ⟨k, e1, e2, -⟩
      · simp only [e1, oI_none, if_true]
        exact ih (i + 1) fu R.tick.2 D' (by omega) (by omega) a2 a3
      · have k8 : k < 8 := by have := hr.inv.1; omega
        have nk : ¬ nI k = -1 := nI_neN (by omega)
        have okk : (R.tick.2.ms k).ok := a2.ok.ms k (by rw [f.1]; exact e2)
        simp only [e1, oI_some, nk, if_false, wdP_g, msgNo h w R.tick.2 k8, Option.bind_some, w_ms_g h w R.tick.2 k8, cond_true, w_ms_agrees h w R.tick.2 k8 okk, bI_eq0]
        cases ca : (R.tick.2.ms k).agrees with
        | false =>
          simp only [if_true, Bool.false_eq_true, if_false]
          exact ⟨rfl, a2.inv.1⟩
        | true =>
          simp only [Bool.true_eq_false, if_false, if_true]
          exact ih (i + 1) fu R.tick.2 D' (by omega) (by omega) a2 a3
theorem busy_wt {R : RW} {D : Nat → Int32} (h : Rel R D) (hb : R.busy = false) : ∀ j, j < R.told → ¬ wt (R.ms j) := by
  intro j hj hw
  unfold RW.busy at hb
  have hb2 := of_decide_eq_false hb
  rcases hw with z | z
  · apply hb2
    right
    unfold RW.count
    rw [up_cnt0]
    have : cnt (fun i => decide ((R.ms i).phase = 0)) R.told ≠ 0 := fun e => by
      have := cnt_0.mp e j hj
      exact absurd z (of_decide_eq_false this)
    have c8 := cnt_le (fun i => decide ((R.ms i).phase = 0)) R.told
    have t8 := h.inv.1
    have q := nI_lt (a := 0) (b := cnt (fun i => decide ((R.ms i).phase = 0)) R.told) (by omega) (by omega)
    rw [nI_0] at q
    exact q
  · exact hb2 (Or.inl (by rw [(h.inv.2.2.2.2.2 j hj).mp z]; exact fun y => nomatch y))
theorem go_keep (hx : isM x m) : ∀ (d : Nat) (R : RW) (D : Nat → Int32), Rel R D → R.live → (R.go d).2.told = R.told ∧ ∀ j, j < R.told → ¬ wt (R.ms j) → (R.go d).2.ms j = R.ms j := by
  intro d
  induction d with
  | zero => intro R D _ _; exact ⟨rfl, fun _ _ _ => rfl⟩
  | succ d ih =>
    intro R D hr hl
    unfold RW.go
    split
    · obtain ⟨D', a1, a2, a3⟩ := tick_d hx hr hl
      have f := tick_facts hx hr hl
      have q := ih R.tick.2 D' a2 a3
      have same : ∀ j, j < R.told → ¬ wt (R.ms j) → R.tick.2.ms j = R.ms j := fun j hj hw => by
        rcases f.2 with ⟨-, e2⟩ | ⟨k, -, -, e3, -, e5⟩
        · rcases e2 j hj with z | z
          · exact z
          · exact absurd z.1 hw
        · exact e5 j (fun z => hw (z ▸ e3))
      exact ⟨q.1.trans f.1, fun j hj hw => by
        have s := same j hj hw
        exact (q.2 j (by rw [f.1]; exact hj) (by rw [s]; exact hw)).trans s⟩
    · exact ⟨rfl, fun _ _ _ => rfl⟩
theorem goA_iff (hx : isM x m) : ∀ (d : Nat) (R : RW) (D : Nat → Int32), Rel R D → R.live → ((R.goA d).1 = true ↔ (R.go d).2.busy = false ∧ ∀ j, j < R.told → wt (R.ms j) → ((R.go d).2.ms j).agrees = true) := by
  intro d
  induction d with
  | zero =>
    intro R D hr hl
    show (!R.busy) = true ↔ R.busy = false ∧ ∀ j, j < R.told → wt (R.ms j) → (R.ms j).agrees = true
    cases cb : R.busy with
    | false => exact ⟨fun _ => ⟨rfl, fun j hj hw => absurd hw (busy_wt hr cb j hj)⟩, fun _ => rfl⟩
    | true => exact ⟨fun z => (nomatch z), fun z => nomatch z.1⟩
  | succ d ih =>
    intro R D hr hl
    unfold RW.goA RW.go
    cases cb : R.busy with
    | false =>
      simp only [Bool.false_eq_true, if_false]
      exact ⟨fun _ => ⟨cb, fun j hj hw => absurd hw (busy_wt hr cb j hj)⟩, fun _ => trivial⟩
    | true =>
      simp only [if_true]
      obtain ⟨D', a1, a2, a3⟩ := tick_d hx hr hl
      have f := tick_facts hx hr hl
      have q := ih R.tick.2 D' a2 a3
      have kp := go_keep hx d R.tick.2 D' a2 a3
      rw [f.1] at q kp
      rcases f.2 with ⟨e1, e2⟩ | ⟨k, e1, e2, e3, e4, e5⟩
      · rw [e1]
        dsimp only
        rw [q]
        refine and_congr_right (fun _ => forall_congr' fun j => ?_)
        refine ⟨fun z hj hw => ?_, fun z hj hw => ?_⟩
        · rcases e2 j hj with y | y
          · exact z hj (by rw [y]; exact hw)
          · exact z hj y.2
        · rcases e2 j hj with y | y
          · exact z hj (by rw [← y]; exact hw)
          · exact z hj y.1
      · rw [e1]
        dsimp only
        have nk : ¬ wt (R.tick.2.ms k) := fun z => by
          rcases z with z | z
          · rw [e4] at z; exact absurd z (by decide)
          · rw [e4] at z; exact absurd z (by decide)
        have end_k : (RW.go d R.tick.2).2.ms k = R.tick.2.ms k := kp.2 k e2 nk
        by_cases ca : (R.tick.2.ms k).agrees = true
        · rw [if_pos ca, q]
          refine and_congr_right (fun _ => forall_congr' fun j => ?_)
          refine ⟨fun z hj hw => ?_, fun z hj hw => ?_⟩
          · by_cases cj : j = k
            · subst cj; rw [end_k]; exact ca
            · exact z hj (by rw [e5 j cj]; exact hw)
          · by_cases cj : j = k
            · subst cj; exact absurd hw nk
            · exact z hj (by rw [← e5 j cj]; exact hw)
        · rw [if_neg ca]
          exact ⟨fun z => (nomatch z), fun z => absurd (by rw [← end_k]; exact z.2 k e2 e3) ca⟩
/-! ticks pass -/
def RW.ticks : Nat → RW → Nat × RW
  | 0, R => (0, R)
  | d + 1, R => ((if R.tick.1 = none then 0 else 1) + (RW.ticks d R.tick.2).1, (RW.ticks d R.tick.2).2)
theorem tick_count (hx : isM x m) {R : RW} {D : Nat → Int32} (h : Rel R D) (hl : R.live) : R.tick.2.count 2 = R.count 2 + nI (if R.tick.1 = none then 0 else 1) := by
  have f := tick_facts hx h hl
  unfold RW.count
  rw [up_cnt0, up_cnt0, f.1, nI_add]
  congr 1
  rcases f.2 with ⟨e1, e2⟩ | ⟨k, e1, e2, e3, e4, e5⟩
  · rw [if_pos e1, Nat.add_zero]
    refine cnt_congr (fun j hj => ?_)
    rcases e2 j hj with z | ⟨z1, z2⟩
    · rw [z]
    · have n1 : ¬ (R.ms j).phase = 2 := by rcases z1 with z | z <;> rw [z] <;> decide
      have n2 : ¬ (R.tick.2.ms j).phase = 2 := by rcases z2 with z | z <;> rw [z] <;> decide
      rw [decide_eq_false n1, decide_eq_false n2]
  · rw [if_neg (by rw [e1]; exact fun z => nomatch z)]
    have n1 : ¬ (R.ms k).phase = 2 := by rcases e3 with z | z <;> rw [z] <;> decide
    exact cnt_less e2 (decide_eq_true e4) (decide_eq_false n1) (fun j hj hk => by rw [e5 j hk])
theorem pass_f {h : gH} {a : Nat} (hx : isM x m) {n : Nat} (hn : n ≤ 100) : ∀ (d i fuel c : Nat) (F : RFc) (D : Nat → Int32), i + d = n → d < fuel → c ≤ i → Rel F.now D → F.now.live → f_X7_pass_b35 fuel (fP h a F) a (nI n) (nI c) (nI i) = some (.inr (nI (c + (F.now.ticks d).1)), fP h a (F.s_now (F.now.ticks d).2)) ∧ ∃ D', (∀ had, f_X8_pass_b42 fuel (dP x m D) m (nI n) had (nI i) = some (F.now.count 2 + nI (F.now.ticks d).1 - had, dP x m D')) ∧ Rel (F.now.ticks d).2 D' ∧ (F.now.ticks d).2.live ∧ (F.now.ticks d).2.time = F.now.time + d := by
  intro d
  induction d with
  | zero =>
    intro i fuel c F D hi hf hc hr hl
    obtain ⟨fu, rfl⟩ := Nat.exists_eq_succ_of_ne_zero (Nat.ne_of_gt hf)
    refine ⟨?_, D, fun had => ?_, hr, hl, rfl⟩
    · simp only [f_X7_pass_b35, if_neg (nI_nlt (show n ≤ i by omega) (show i < 2 ^ 31 by omega))]
      rfl
    · simp only [f_X8_pass_b42, if_neg (nI_nlt (show n ≤ i by omega) (show i < 2 ^ 31 by omega)), dI hx, cond_true, inState_d hx hr, Option.bind_some]
      show some (F.now.count 2 - had, _) = some (F.now.count 2 + nI 0 - had, _)
      rw [nI_0, Int32.add_zero]
  | succ d ih =>
    intro i fuel c F D hi hf hc hr hl
    obtain ⟨fu, rfl⟩ := Nat.exists_eq_succ_of_ne_zero (Nat.ne_of_gt (Nat.zero_lt_of_lt hf))
    obtain ⟨D', a1, a2, a3⟩ := tick_d hx hr hl
    have tk : f_X6_letTickPass (fP h a F) (a + 2) = some (oI F.now.tick.1, fP h a (F.s_now F.now.tick.2)) := by
      have q := tick_f (h := fP h a F) (w := a + 2) hr
      rw [fE_now, fU_now] at q
      exact q
    have gN : g_is (fP h a F) (a + 2) 6 = true := by
      have q := wdP_g (fP h a F) (a + 2) F.now
      rwa [fE_now] at q
    have tc := tick_count hx hr hl
    have f := tick_facts hx hr hl
    have rest : ∀ c', c' ≤ i + 1 → _ := fun c' hc' => ih (i + 1) fu c' (F.s_now F.now.tick.2) D' (by omega) (by omega) hc' a2 a3
    simp only [f_X7_pass_b35, if_pos (nI_lt (show i < n by omega) (show n < 2 ^ 31 by omega)), fG_now, gN, cond_true, tk, Option.bind_some, f_X7_pass_b54, ← nI_succ, f_X8_pass_b42, dI hx, a1]
    rcases f.2 with ⟨e1, -⟩ | ⟨k, e1, e2, -⟩
    · obtain ⟨q1, D2, q2, q3, q4, q5⟩ := rest c (by omega)
      simp only [e1, oI_none, if_true]
      have et : (F.now.ticks (d + 1)) = ((F.now.tick.2.ticks d).1, (F.now.tick.2.ticks d).2) := by
        show ((if F.now.tick.1 = none then 0 else 1) + _, _) = _
        rw [if_pos e1, Nat.zero_add]
      rw [et]
      refine ⟨q1, D2, fun had => ?_, q3, q4, ?_⟩
      · rw [q2 had]
        show some (F.now.tick.2.count 2 + _ - had, _) = _
        rw [tc, if_pos e1, nI_0, Int32.add_zero]
        rfl
      · show (F.now.tick.2.ticks d).2.time = _
        have : (F.now.tick.2.ticks d).2.time = F.now.tick.2.time + d := q5
        rw [this, tick_time hx hr hl]; omega
    · obtain ⟨q1, D2, q2, q3, q4, q5⟩ := rest (c + 1) (by omega)
      have ni : F.now.tick.1 ≠ none := by rw [e1]; exact fun z => nomatch z
      have nk : ¬ nI k = -1 := nI_neN (by have := hr.inv.1; omega)
      simp only [e1, oI_some, nk, if_false]
      have et : (F.now.ticks (d + 1)) = (1 + (F.now.tick.2.ticks d).1, (F.now.tick.2.ticks d).2) := by
        show ((if F.now.tick.1 = none then 0 else 1) + _, _) = _
        rw [if_neg ni]
      rw [et]
      refine ⟨?_, D2, fun had => ?_, q3, q4, ?_⟩
      · rw [q1]
        show some (Sum.inr (nI (c + 1 + (F.now.tick.2.ticks d).1)), _) = some (Sum.inr (nI (c + (1 + (F.now.tick.2.ticks d).1))), _)
        rw [Nat.add_assoc]
        rfl
      · rw [q2 had]
        show some (F.now.tick.2.count 2 + nI (F.now.tick.2.ticks d).1 - had, _) = some (F.now.count 2 + nI (1 + (F.now.tick.2.ticks d).1) - had, _)
        rw [tc, if_neg ni, Int32.add_assoc, nI_add]
      · show (F.now.tick.2.ticks d).2.time = _
        have : (F.now.tick.2.ticks d).2.time = F.now.tick.2.time + d := q5
        rw [this, tick_time hx hr hl]; omega
end LOOPS
