/-! a channel at work; a tick -/
/-- a channel takes an open frame, if it is idle -/
def RW.took (R : RW) (b : Bool) (m : Nat) : RW := if (R.ch b).frame = -1 then (R.setMs m (R.ms m).takeOpen.2).setCh b ((R.ch b).take (R.ms m).takeOpen.1) else R
/-- and makes a step -/
def RW.work (R : RW) (b : Bool) (m : Nat) (level : Int32) : RW := if ((R.took b m).ch b).frame = -1 then R.took b m else ((R.took b m).counted (decide (((R.took b m).ch b).power < level)) (decide (level = ((R.took b m).ch b).power))).madeStep b m (decide (((R.took b m).ch b).power < level)) (decide (level = ((R.took b m).ch b).power))
def RW.fin (R : RW) (m : Nat) : RW := if (R.ms m).unf = 0 then RW.mk R.time R.told none R.fsize R.limit R.sent R.lost R.garbled R.given R.no R.c0 R.c1 R.k0 R.k1 R.mi (updM R.ms m (((R.ms m).s_phase 2).s_ended (nI R.time))) else R
theorem takeOpen_unf (M : RMs) : M.takeOpen.2.unf = M.unf := by
  unfold RMs.takeOpen
  cases M.openFrame <;> rfl
theorem setChMs (R : RW) (b : Bool) (m : Nat) (C : RCh) (M : RMs) : (R.setMs m M).setCh b C = R.upd3 b m C M R.sent R.lost R.garbled R.given R.way := by cases b <;> rfl
theorem serve_work {R : RW} {b : Bool} {level : Int32} {m : Nat} (e : R.way = some m) (hl : (R.ms m).unf ≠ 0) : R.serve b level = if (R.ch b).isOpen (nI R.time) then (R.work b m level).fin m else R := by
  unfold RW.serve RW.work
  rw [e]
  dsimp only
  by_cases c : (R.ch b).isOpen (nI R.time) = true
  · rw [if_pos c, if_pos c]
    by_cases c2 : (R.ch b).frame = -1
    · have et : R.took b m = (R.setMs m (R.ms m).takeOpen.2).setCh b ((R.ch b).take (R.ms m).takeOpen.1) := if_pos c2
      rw [if_pos c2, ← et]
      unfold RW.served
      by_cases c3 : ((R.took b m).ch b).frame = -1
      · rw [if_pos c3, if_pos c3]
        have : ¬ ((R.took b m).ms m).unf = 0 := by
          rw [et, setChMs, upd3_ms, takeOpen_unf]; exact hl
        unfold RW.fin
        rw [if_neg this]
      · rw [if_neg c3, if_neg c3]
        rfl
    · have et : R.took b m = R := if_neg c2
      rw [if_neg c2, et]
      unfold RW.served
      rw [if_neg c2, if_neg c2]
      rfl
  · rw [if_neg c, if_neg c]
section REL8
variable {x : gH} {m : Nat} {D : Nat → Int32}
/-- the frame is taken -/
theorem took_d {R : RW} (h : Rel R D) {i : Nat} (e : R.way = some i) (b : Bool) (hi9 : (R.ch b).frame = -1) : match (R.ms i).openFrame with
    | none => Rel (R.took b i) D ∧ ((R.took b i).ch b).frame = -1
    | some f => f < 24 ∧ Rel (R.took b i) (upd (upd (upd D (10 + 16 * cn b + 3) (nI f)) (10 + 16 * cn b + 4) 0) (112 + 102 * i + (54 + f)) 1) ∧ ((R.took b i).ch b).frame = nI f := by
  obtain ⟨v1, v2, v3, ⟨l, l1, l2, l3, l4⟩, v5, v6⟩ := h.inv
  have hit := v5 i e
  have hi : i < 8 := by omega
  have hc := cn_lt b
  have hM := l4 i hit
  have hS := h.ms i hit
  have h24 := hM.2.2.1
  have f24 := hM.fr24 v2
  have hC := h.ch b
  obtain ⟨w1, w2⟩ := h.way.2 i e
  obtain ⟨n0, n1, n2, n3, n4, n5, n6, n8, n9⟩ := h.n
  have et : R.took b i = R.upd3 b i ((R.ch b).take (R.ms i).takeOpen.1) (R.ms i).takeOpen.2 R.sent R.lost R.garbled R.given (some i) := by
    rw [← e, ← setChMs]; exact if_pos hi9
  rw [et]
  unfold RMs.takeOpen
  cases ef : (R.ms i).openFrame with
  | none =>
    dsimp only
    refine ⟨Rel_on h e (fun j _ _ _ => rfl) rfl n3 n4 n5 n6 ⟨hC.1, hC.2.1, hC.2.2.1, hC.2.2.2.1.trans hi9, fun _ => hC.2.2.2.2 hi9⟩ hS (fun _ _ _ q => q) rfl (Or.inl rfl) rfl (fun _ => rfl) (fun _ _ _ q => q) (fun _ => rfl), by rw [upd3_ch]; rfl⟩
  | some f =>
    dsimp only
    obtain ⟨-, f2, f3, -⟩ := fnd_some (show fnd (fun f => (R.ms i).fst f = 0) (R.ms i).frames 0 = some f from ef)
    have ff : f < (R.ms i).frames := by omega
    refine ⟨by omega, ?_, by rw [upd3_ch]; rfl⟩
    refine Rel_on h e (fun j j1 j2 j3 => by rw [upd_ne (by omega), upd_ne (by omega), upd_ne (by omega)]) (by rw [upd_ne (by omega), upd_ne (by omega), upd_ne (by omega)]) ?_ ?_ ?_ ?_ ?_ ?_ (fun l' a1 a2 a3 => ?_) rfl ?_ rfl (fun _ => rfl) (fun g g1 g2 g3 => ?_) ?_
    · rw [upd_ne (by omega), upd_ne (by omega), upd_ne (by omega)]; exact n3
    · rw [upd_ne (by omega), upd_ne (by omega), upd_ne (by omega)]; exact n4
    · rw [upd_ne (by omega), upd_ne (by omega), upd_ne (by omega)]; exact n5
    · rw [upd_ne (by omega), upd_ne (by omega), upd_ne (by omega)]; exact n6
    · refine ⟨?_, ?_, ?_, ?_, fun z => absurd z (nI_neN (by omega))⟩
      · rw [upd_ne (by omega), upd_ne (by omega), upd_ne (by omega)]; exact hC.1
      · rw [upd_ne (by omega), upd_ne (by omega), upd_ne (by omega)]; exact hC.2.1
      · rw [upd_ne (by omega), upd_ne (by omega), upd_ne (by omega)]; exact hC.2.2.1
      · rw [upd_ne (by omega), upd_ne (by omega), upd_at]; rfl
    · have : relMs (R.ms i) (112 + 102 * i) (upd (upd D (10 + 16 * cn b + 3) (nI f)) (10 + 16 * cn b + 4) 0) := hS.congr h24 (fun j j1 j2 => by rw [upd_ne (by omega), upd_ne (by omega)])
      exact this.p54 h24 (by omega) 1
    · exact a3.keep ff (by rw [f3]; decide) (s := 1) (by omega)
    · refine Or.inr ⟨f, 0, 0, rfl, nI_0.symm, nI_0.symm, ff, by omega, by omega, upd_at _ _ _, by show 0 = _; omega, ?_, fun z => absurd z (by omega), fun z => absurd z (by omega), fun z => absurd z (by omega), fun _ => rfl⟩
      rw [upd_ne (by omega), upd_at, nI_0]
    · show upd (R.ms i).fst f 1 g = 1
      by_cases c : g = f
      · subst c; exact upd_at _ _ _
      · rw [upd_ne c]; exact g3
    · intro z
      have z2 : (R.ch (!b)).frame = nI f := by
        have : ((R.ch b).take (nI f)).frame = nI f := rfl
        rw [← this]; exact z.symm
      rcases w1 (!b) with q | ⟨g, _, _, g1, _, _, g4, _, _, g7, _⟩
      · rw [z2] at q; exact absurd q (nI_neN (by omega))
      · have : g = f := (nI_eq (by omega) (by omega)).mp (g1.symm.trans z2)
        subst this
        rw [f3] at g7
        exact absurd g7 (by decide)
theorem work_d (hx : isM x m) {R : RW} (h : Rel R D) {i : Nat} (e : R.way = some i) (b : Bool) : ∃ D', f_X8_work (dP x m D) m (nI i) (nI (cn b)) = some (dP x m D') ∧ Rel (R.work b i (R.mi.levelAt (nI R.time))) D' := by
  obtain ⟨v1, v2, v3, ⟨l, l1, l2, l3, l4⟩, v5, v6⟩ := h.inv
  have hit := v5 i e
  have hi : i < 8 := by omega
  have hc := cn_lt b
  have hM := l4 i hit
  have hS := h.ms i hit
  have hC := h.ch b
  have c3 : D (10 + 16 * cn b + 3) = (R.ch b).frame := hC.2.2.2.1
  by_cases c : (R.ch b).frame = -1
  · have q := took_d h e b c
    have of := openFrame_d hx hi v2 v3 h.n.fs hM hS
    cases ef : (R.ms i).openFrame with
    | none =>
      rw [ef] at q of
      refine ⟨D, ?_, ?_⟩
      · simp only [f_X8_work, dI hx, cond_true, chL3 hx hc, c3, c, if_true, of, oI_none, Option.bind_some]
      · unfold RW.work
        rw [if_pos q.2]
        exact q.1
    | some f =>
      rw [ef] at q of
      dsimp only at q
      obtain ⟨q0, q1, q2⟩ := q
      have nf : ¬ nI f = -1 := nI_neN (by omega)
      have q3 : ((R.took b i).ch b).frame ≠ -1 := by rw [q2]; exact nf
      have et : R.took b i = (R.setMs i (R.ms i).takeOpen.2).setCh b ((R.ch b).take (R.ms i).takeOpen.1) := if_pos c
      have ew : (R.took b i).way = some i := by rw [et, setChMs]; exact e
      have em : (R.took b i).mi = R.mi ∧ (R.took b i).time = R.time := by rw [et, setChMs]; exact ⟨rfl, rfl⟩
      obtain ⟨D', s1, s2⟩ := step_d hx q1 ew b q3 rfl rfl
      refine ⟨D', ?_, ?_⟩
      · simp only [f_X8_work, f_X8_work_b46, dI hx, cond_true, chL3 hx hc, c3, c, if_true, of, oI_some, nf, if_false, Option.bind_some, chS3 hx hc, chS4 hx hc, msS54 hx hi (show f < 24 by omega), s1]
      · unfold RW.work
        rw [if_neg q3, ← em.1, ← em.2]
        exact s2
  · have et : R.took b i = R := if_neg c
    obtain ⟨D', s1, s2⟩ := step_d hx h e b c rfl rfl
    refine ⟨D', ?_, ?_⟩
    · simp only [f_X8_work, f_X8_work_b46, dI hx, cond_true, chL3 hx hc, c3, c, if_false, Option.bind_some, s1]
    · unfold RW.work
      rw [et, if_neg c]
      exact s2
theorem took_same (R : RW) (b : Bool) (m : Nat) : (R.took b m).way = R.way ∧ (R.took b m).mi = R.mi ∧ (R.took b m).time = R.time := by
  unfold RW.took
  split
  · rw [setChMs]; exact ⟨rfl, rfl, rfl⟩
  · exact ⟨rfl, rfl, rfl⟩
theorem work_same (R : RW) (b : Bool) (m : Nat) (level : Int32) : (R.work b m level).way = R.way ∧ (R.work b m level).mi = R.mi ∧ (R.work b m level).time = R.time := by
  have t := took_same R b m
  unfold RW.work
  split
  · exact t
  · have q := madeStep_near ((R.took b m).counted (decide (((R.took b m).ch b).power < level)) (decide (level = ((R.took b m).ch b).power))) b m (decide (((R.took b m).ch b).power < level)) (decide (level = ((R.took b m).ch b).power))
    exact ⟨q.2.trans t.1, q.1.mi.trans t.2.1, q.1.time.trans t.2.2⟩
theorem fin_same (R : RW) (m : Nat) : (R.fin m).mi = R.mi ∧ (R.fin m).time = R.time := by
  unfold RW.fin
  split <;> exact ⟨rfl, rfl⟩
/-- what every World keeps between the channels' turns: a message that waits or is on the way has a frame that isn't at its end -/
def RW.live (R : RW) : Prop := ∀ i, i < R.told → ((R.ms i).phase = 0 ∨ (R.ms i).phase = 1) → (R.ms i).unf ≠ 0
theorem RW.live.on {R : RW} (h : R.live) (hi : R.inv) {m : Nat} (e : R.way = some m) : (R.ms m).unf ≠ 0 := h m (hi.2.2.2.2.1 m e) (Or.inr ((hi.2.2.2.2.2 m (hi.2.2.2.2.1 m e)).mpr e))
theorem updM_ne {f : Nat → RMs} {m i : Nat} {M : RMs} (h : i ≠ m) : updM f m M i = f i := by simp [updM, h]
theorem madeStep_mo (R : RW) (b : Bool) (m : Nat) (lo ga : Bool) {i : Nat} (h : i ≠ m) : (R.madeStep b m lo ga).ms i = R.ms i := by
  unfold RW.madeStep RW.setMs RW.setCh
  dsimp only
  split
  · split
    · cases b <;> exact updM_ne h
    · cases b <;> exact updM_ne h
  · split
    · cases b <;> rfl
    · split
      · cases b <;> rfl
      · cases b <;> exact updM_ne h
theorem took_mo (R : RW) (b : Bool) (m : Nat) {i : Nat} (h : i ≠ m) : (R.took b m).ms i = R.ms i ∧ (R.took b m).told = R.told := by
  unfold RW.took
  split
  · rw [setChMs]; exact ⟨updM_ne h, rfl⟩
  · exact ⟨rfl, rfl⟩
theorem work_mo (R : RW) (b : Bool) (m : Nat) (level : Int32) {i : Nat} (h : i ≠ m) : (R.work b m level).ms i = R.ms i := by
  unfold RW.work
  split
  · exact (took_mo R b m h).1
  · exact (madeStep_mo _ b m _ _ h).trans (took_mo R b m h).1
theorem work_told (R : RW) (b : Bool) (m : Nat) (level : Int32) : (R.work b m level).told = R.told := by
  have t := (took_mo R b m (show m + 1 ≠ m by omega)).2
  unfold RW.work
  split
  · exact t
  · exact (madeStep_near _ b m _ _).1.told.trans t
/-- a message becomes over -/
theorem fin_d {R : RW} (h : Rel R D) {i : Nat} (e : R.way = some i) (c : (R.ms i).unf = 0) : Rel (R.fin i) (upd (upd (upd D (112 + 102 * i + 3) 2) (112 + 102 * i + 5) (D 0)) 2 (-1)) := by
  obtain ⟨v1, v2, v3, ⟨l, l1, l2, l3, l4⟩, v5, v6⟩ := h.inv
  have hit := v5 i e
  have hi : i < 8 := by omega
  have hM := l4 i hit
  have hS := h.ms i hit
  have h24 := hM.2.2.1
  obtain ⟨n0, n1, n2, n3, n4, n5, n6, n8, n9⟩ := h.n
  obtain ⟨w1, w2⟩ := h.way.2 i e
  have idle : ∀ b, (R.ch b).frame = -1 := by
    intro b
    rcases w1 b with q | ⟨f, _, _, _, _, _, g4, _, _, g7, _⟩
    · exact q
    · have := (unf_0 hM v2).mp c f g4
      rw [g7] at this
      exact absurd (by decide) this
  have et : R.fin i = R.upd3 false i R.c0 (((R.ms i).s_phase 2).s_ended (nI R.time)) R.sent R.lost R.garbled R.given none := if_pos c
  rw [et]
  have rc : ∀ b, relCh (R.ch b) (10 + 16 * cn b) (upd (upd (upd D (112 + 102 * i + 3) 2) (112 + 102 * i + 5) (D 0)) 2 (-1)) := fun b => (h.ch b).congr (fun j j1 j2 => by have := cn_lt b; rw [upd_ne (by omega), upd_ne (by omega), upd_ne (by omega)])
  refine Rel_upd3 h hit (fun j j1 j2 j3 => by rw [upd_ne (by omega), upd_ne (by omega), upd_ne (by omega)]) ?_ ?_ ?_ ?_ (upd_at _ _ _) (rc false) ?_ (fun l' a1 a2 a3 => ?_) (fun k ek => nomatch ek) (fun j hj => ?_) ⟨fun _ => ⟨idle false, idle true⟩, fun k ek => nomatch ek⟩
  · rw [upd_ne (by omega), upd_ne (by omega), upd_ne (by omega)]; exact n3
  · rw [upd_ne (by omega), upd_ne (by omega), upd_ne (by omega)]; exact n4
  · rw [upd_ne (by omega), upd_ne (by omega), upd_ne (by omega)]; exact n5
  · rw [upd_ne (by omega), upd_ne (by omega), upd_ne (by omega)]; exact n6
  · rw [n0]
    exact ((hS.p3 h24 2).p5 (nI R.time)).congr h24 (fun j j1 j2 => upd_ne (by omega))
  · obtain ⟨b1, b2, b3, b4, b5, b6, b7, b8, b9, b10⟩ := a3
    exact ⟨b1, b2, b3, b4, b5, b6, ⟨2, by omega, rfl⟩, b8, b9, b10⟩
  · by_cases cj : j = i
    · rw [if_pos cj]
      exact ⟨fun z => absurd (show (2 : Int32) = 1 from z) (by decide), fun z => nomatch z⟩
    · rw [if_neg cj, v6 j hj, e]
      exact ⟨fun z => absurd (Option.some.inj z).symm cj, fun z => nomatch z⟩
/-- one channel's turn -/
theorem turn_d (hx : isM x m) {R : RW} (h : Rel R D) (hl : R.live) (b : Bool) (fu : Nat) : ∃ D', f_X8_tick_b49 (fu + 1) (dP x m D) m (nI (cn b)) = f_X8_tick_b49 fu (dP x m D') m (nI (cn b + 1)) ∧ Rel (R.serve b (R.mi.levelAt (nI R.time))) D' ∧ (R.serve b (R.mi.levelAt (nI R.time))).live ∧ (R.serve b (R.mi.levelAt (nI R.time))).mi = R.mi ∧ (R.serve b (R.mi.levelAt (nI R.time))).time = R.time := by
  have hc := cn_lt b
  have n2 : D 2 = oI R.way := h.n.2.2.1
  have n0 := h.n.time
  have hlt : nI (cn b) < 2 := by cases b <;> decide
  cases e : R.way with
  | none =>
    rw [serve_way e]
    refine ⟨D, ?_, h, hl, rfl, rfl⟩
    rw [e] at n2
    simp only [f_X8_tick_b49, hlt, if_true, dG hx, dL2, n2, oI_none, Option.bind_some, f_X8_tick_b120, ← nI_succ]
  | some i =>
    obtain ⟨v1, v2, v3, ⟨l, l1, l2, l3, l4⟩, v5, v6⟩ := h.inv
    have hit := v5 i e
    have hi : i < 8 := by omega
    have ni : ¬ nI i = -1 := nI_neN (by omega)
    rw [e] at n2
    have op := isOpen_d hx hc (h.ch b)
    rw [n0] at op
    rw [serve_work e (hl.on h.inv e)]
    cases c : (R.ch b).isOpen (nI R.time) with
    | false =>
      rw [if_neg (by decide)]
      refine ⟨D, ?_, h, hl, rfl, rfl⟩
      rw [c] at op
      simp only [f_X8_tick_b49, hlt, if_true, dG hx, dI hx, cond_true, dL2, n2, oI_some, ni, if_false, op, bI_f, Option.bind_some, f_X8_tick_b120, ← nI_succ]
    | true =>
      simp only [if_true]
      rw [c] at op
      have z10 : ((1 : Int32) = 0) = False := eq_false (by decide)
      obtain ⟨D1, q1, q2⟩ := work_d hx h e b
      generalize hR1 : R.work b i (R.mi.levelAt (nI R.time)) = R1 at q2
      obtain ⟨ws1, ws2, ws3⟩ := work_same R b i (R.mi.levelAt (nI R.time))
      rw [hR1] at ws1 ws2 ws3
      have e1 : R1.way = some i := ws1.trans e
      obtain ⟨v1', v2', v3', ⟨l', l1', l2', l3', l4'⟩, v5', v6'⟩ := q2.inv
      have hit' := v5' i e1
      have th := isThrough_d hx hi v2' v3' q2.n.fs (l4' i hit') (q2.ms i hit')
      have fs := fin_same R1 i
      by_cases u : (R1.ms i).unf = 0
      · rw [decide_eq_true u] at th
        have qf := fin_d q2 e1 u
        refine ⟨_, ?_, qf, ?_, fs.1.trans ws2, fs.2.trans ws3⟩
        · have d0 : upd D1 (112 + 102 * i + 3) 2 0 = D1 0 := upd_ne (by omega)
          simp only [f_X8_tick_b49, hlt, if_true, dG hx, dI hx, cond_true, dL2, n2, oI_some, ni, if_false, op, bI_t, z10, q1, th, Option.bind_some, msS3 hx hi, dL0, d0, msS5 hx hi, dS2, f_X8_tick_b120, ← nI_succ]
        · intro j hj hp
          have ef : R1.fin i = RW.mk R1.time R1.told none R1.fsize R1.limit R1.sent R1.lost R1.garbled R1.given R1.no R1.c0 R1.c1 R1.k0 R1.k1 R1.mi (updM R1.ms i (((R1.ms i).s_phase 2).s_ended (nI R1.time))) := if_pos u
          rw [ef] at hp hj ⊢
          by_cases cj : j = i
          · subst cj
            have hp2 : (updM R1.ms j (((R1.ms j).s_phase 2).s_ended (nI R1.time)) j).phase = 0 ∨ (updM R1.ms j (((R1.ms j).s_phase 2).s_ended (nI R1.time)) j).phase = 1 := hp
            rw [updM_at] at hp2
            rcases hp2 with z | z
            · exact absurd (show (2 : Int32) = 0 from z) (by decide)
            · exact absurd (show (2 : Int32) = 1 from z) (by decide)
          · have o : updM R1.ms i (((R1.ms i).s_phase 2).s_ended (nI R1.time)) j = R.ms j := (updM_ne cj).trans (by rw [← hR1]; exact work_mo R b i _ cj)
            have hp2 : (updM R1.ms i (((R1.ms i).s_phase 2).s_ended (nI R1.time)) j).phase = 0 ∨ (updM R1.ms i (((R1.ms i).s_phase 2).s_ended (nI R1.time)) j).phase = 1 := hp
            show (updM R1.ms i (((R1.ms i).s_phase 2).s_ended (nI R1.time)) j).unf ≠ 0
            rw [o] at hp2 ⊢
            refine hl j ?_ hp2
            have : R1.told = R.told := by rw [← hR1]; exact work_told R b i _
            rw [← this]; exact hj
      · rw [decide_eq_false u] at th
        have ef : R1.fin i = R1 := if_neg u
        rw [ef]
        refine ⟨D1, ?_, q2, ?_, ws2, ws3⟩
        · simp only [f_X8_tick_b49, hlt, if_true, dG hx, dI hx, cond_true, dL2, n2, oI_some, ni, if_false, op, bI_t, z10, q1, th, bI_f, Option.bind_some, f_X8_tick_b120, ← nI_succ]
        · intro j hj hp
          by_cases cj : j = i
          · subst cj; exact u
          · have o : R1.ms j = R.ms j := by rw [← hR1]; exact work_mo R b i _ cj
            rw [o] at hp ⊢
            refine hl j ?_ hp
            have : R1.told = R.told := by rw [← hR1]; exact work_told R b i _
            rw [← this]; exact hj
theorem Rel.timed {R : RW} (h : Rel R D) : Rel (R.s_time (R.time + 1)) (upd D 0 (nI R.time + 1)) := by
  obtain ⟨v1, v2, v3, ⟨l, l1, l2, l3, l4⟩, v5, v6⟩ := h.inv
  obtain ⟨n0, n1, n2, n3, n4, n5, n6, n8, n9⟩ := h.n
  refine ⟨h.inv, ⟨?_, ?_, ?_, ?_, ?_, ?_, ?_, ?_, ?_⟩, fun b => (h.ch b).congr (fun j j1 j2 => upd_ne (by omega)), h.k0.congr (fun j j1 j2 => upd_ne (by omega)), h.k1.congr (fun j j1 j2 => upd_ne (by omega)), h.mi.congr (upd_ne (by omega)) (fun j j1 j2 => upd_ne (by omega)), fun i hi => (h.ms i hi).congr (l4 i hi).2.2.1 (fun j j1 j2 => upd_ne (by omega)), h.way.1, fun k ek => ⟨fun b => ((h.way.2 k ek).1 b).congr (fun f => (l4 k (v5 k ek)).many_le v3 f) (fun j j1 j2 => upd_ne (by omega)), (h.way.2 k ek).2⟩⟩
  · rw [upd_at, ← nI_succ]; rfl
  · rw [upd_ne (by omega)]; exact n1
  · rw [upd_ne (by omega)]; exact n2
  · rw [upd_ne (by omega)]; exact n3
  · rw [upd_ne (by omega)]; exact n4
  · rw [upd_ne (by omega)]; exact n5
  · rw [upd_ne (by omega)]; exact n6
  · rw [upd_ne (by omega)]; exact n8
  · rw [upd_ne (by omega)]; exact n9
theorem turn_2 (hx : isM x m) (fu : Nat) : f_X8_tick_b49 (fu + 1) (dP x m D) m (nI 2) = some (dP x m (upd D 0 (D 0 + 1))) := by
  have nlt : ¬ nI 2 < 2 := by decide
  simp only [f_X8_tick_b49, nlt, if_false, dG hx, dL0, dS0, Option.bind_some]
theorem b47_d (hx : isM x m) {R : RW} (h : Rel R D) (hl : R.live) : ∃ D', f_X8_tick_b47 (dP x m D) m = some (dP x m D') ∧ Rel (let R3 := (R.serve false (R.mi.levelAt (nI R.time))).serve true (R.mi.levelAt (nI R.time)); R3.s_time (R3.time + 1)) D' ∧ ((R.serve false (R.mi.levelAt (nI R.time))).serve true (R.mi.levelAt (nI R.time))).live := by
  obtain ⟨D1, a1, a2, a3, a4, a5⟩ := turn_d hx h hl false 8191
  obtain ⟨D2, b1, b2, b3, b4, b5⟩ := turn_d hx a2 a3 true 8190
  rw [a4, a5] at b2 b3
  refine ⟨_, ?_, b2.timed, b3⟩
  have n0 := b2.n.time
  unfold f_X8_tick_b47
  have : f_X8_tick_b49 g_N (dP x m D) m 0 = f_X8_tick_b49 (8191 + 1) (dP x m D) m (nI (cn false)) := by
    have : nI (cn false) = 0 := nI_0
    rw [this]; rfl
  rw [this, a1]
  have : f_X8_tick_b49 8191 (dP x m D1) m (nI (cn false + 1)) = f_X8_tick_b49 (8190 + 1) (dP x m D1) m (nI (cn true)) := rfl
  rw [this, b1]
  rw [← n0]
  exact turn_2 hx 8189
theorem start_d {R : RW} (h : Rel R D) (e : R.way = none) (hl : R.live) : match R.servedAs 0 with
    | none => Rel R.start D ∧ R.start.live
    | some i => i < R.told ∧ Rel R.start (upd (upd (upd D 2 (nI i)) (112 + 102 * i + 3) 1) (112 + 102 * i + 4) (nI R.time)) ∧ R.start.live := by
  obtain ⟨v1, v2, v3, ⟨l, l1, l2, l3, l4⟩, v5, v6⟩ := h.inv
  unfold RW.start
  cases es : R.servedAs 0 with
  | none =>
    dsimp only
    have : R.s_way none = R := by rw [← e]; rfl
    have t2 : RW.mk R.time R.told none R.fsize R.limit R.sent R.lost R.garbled R.given R.no R.c0 R.c1 R.k0 R.k1 R.mi R.ms = R := this
    rw [t2]
    exact ⟨h, hl⟩
  | some i =>
    dsimp only
    obtain ⟨-, s2, ⟨s3, -⟩, -⟩ := fnd_some (show fnd (fun i => (R.ms i).phase = 0 ∧ R.before i = 0) R.told 0 = some i from es)
    have hit : i < R.told := by omega
    have hM := l4 i hit
    have hS := h.ms i hit
    have h24 := hM.2.2.1
    obtain ⟨n0, n1, n2, n3, n4, n5, n6, n8, n9⟩ := h.n
    have id := h.way.1 e
    refine ⟨hit, ?_, fun k hk hp => ?_⟩
    · have et : RW.mk R.time R.told (some i) R.fsize R.limit R.sent R.lost R.garbled R.given R.no R.c0 R.c1 R.k0 R.k1 R.mi (updM R.ms i (((R.ms i).s_phase 1).s_began (nI R.time))) = R.upd3 false i R.c0 (((R.ms i).s_phase 1).s_began (nI R.time)) R.sent R.lost R.garbled R.given (some i) := rfl
      rw [et]
      have rc : ∀ b, relCh (R.ch b) (10 + 16 * cn b) (upd (upd (upd D 2 (nI i)) (112 + 102 * i + 3) 1) (112 + 102 * i + 4) (nI R.time)) := fun b => (h.ch b).congr (fun j j1 j2 => by have := cn_lt b; rw [upd_ne (by omega), upd_ne (by omega), upd_ne (by omega)])
      refine Rel_upd3 h hit (fun j j1 j2 j3 => by rw [upd_ne (by omega), upd_ne (by omega), upd_ne (by omega)]) ?_ ?_ ?_ ?_ ?_ (rc false) ?_ (fun l' a1 a2 a3 => ?_) (fun k ek => by cases ek; exact hit) (fun j hj => ?_) ⟨(fun z => nomatch z), fun k ek => ⟨fun b => Or.inl (by cases b; exact id.1; exact id.2), fun _ => id.1⟩⟩
      · rw [upd_ne (by omega), upd_ne (by omega), upd_ne (by omega)]; exact n3
      · rw [upd_ne (by omega), upd_ne (by omega), upd_ne (by omega)]; exact n4
      · rw [upd_ne (by omega), upd_ne (by omega), upd_ne (by omega)]; exact n5
      · rw [upd_ne (by omega), upd_ne (by omega), upd_ne (by omega)]; exact n6
      · rw [upd_ne (by omega), upd_ne (by omega), upd_at]; rfl
      · have : relMs (R.ms i) (112 + 102 * i) (upd D 2 (nI i)) := hS.congr h24 (fun j j1 j2 => upd_ne (by omega))
        exact (this.p3 h24 1).p4 (nI R.time)
      · obtain ⟨b1, b2, b3, b4, b5, b6, b7, b8, b9, b10⟩ := a3
        exact ⟨b1, b2, b3, b4, b5, b6, ⟨1, by omega, rfl⟩, b8, b9, b10⟩
      · by_cases cj : j = i
        · rw [if_pos cj, cj]
          exact ⟨fun _ => rfl, fun _ => rfl⟩
        · rw [if_neg cj, v6 j hj, e]
          exact ⟨(fun z => nomatch z), fun z => absurd (Option.some.inj z).symm cj⟩
    · show (updM R.ms i (((R.ms i).s_phase 1).s_began (nI R.time)) k).unf ≠ 0
      by_cases c : k = i
      · subst c
        rw [updM_at]
        exact hl k hit (Or.inl s3)
      · have hp2 : (updM R.ms i (((R.ms i).s_phase 1).s_began (nI R.time)) k).phase = 0 ∨ (updM R.ms i (((R.ms i).s_phase 1).s_began (nI R.time)) k).phase = 1 := hp
        rw [updM_ne c] at hp2 ⊢
        exact hl k hk hp2
theorem tick_d (hx : isM x m) {R : RW} (h : Rel R D) (hl : R.live) : ∃ D', f_X8_tick (dP x m D) m = some (dP x m D') ∧ Rel R.tick.2 D' ∧ R.tick.2.live := by
  have n2 : D 2 = oI R.way := h.n.2.2.1
  have n0 := h.n.time
  have body : ∀ {R1 : RW} {D1 : Nat → Int32}, Rel R1 D1 → R1.live → ∃ D', f_X8_tick_b47 (dP x m D1) m = some (dP x m D') ∧ Rel (match R1.way with
      | none => (none, R1.s_time (R1.time + 1))
      | some k => (if ((R1.serve false (R1.mi.levelAt (nI R1.time))).serve true (R1.mi.levelAt (nI R1.time))).way = none then some k else none, ((R1.serve false (R1.mi.levelAt (nI R1.time))).serve true (R1.mi.levelAt (nI R1.time))).s_time (((R1.serve false (R1.mi.levelAt (nI R1.time))).serve true (R1.mi.levelAt (nI R1.time))).time + 1)) : Option Nat × RW).2 D' ∧ (match R1.way with
      | none => (none, R1.s_time (R1.time + 1))
      | some k => (if ((R1.serve false (R1.mi.levelAt (nI R1.time))).serve true (R1.mi.levelAt (nI R1.time))).way = none then some k else none, ((R1.serve false (R1.mi.levelAt (nI R1.time))).serve true (R1.mi.levelAt (nI R1.time))).s_time (((R1.serve false (R1.mi.levelAt (nI R1.time))).serve true (R1.mi.levelAt (nI R1.time))).time + 1)) : Option Nat × RW).2.live := by
    intro R1 D1 h1 l1
    obtain ⟨D', a1, a2, a3⟩ := b47_d hx h1 l1
    refine ⟨D', a1, ?_⟩
    cases ew : R1.way with
    | none =>
      dsimp only
      have s1 := serve_way (b := false) (level := R1.mi.levelAt (nI R1.time)) ew
      rw [s1] at a2 a3
      have s2 := serve_way (b := true) (level := R1.mi.levelAt (nI R1.time)) ew
      rw [s2] at a2 a3
      exact ⟨a2, a3⟩
    | some k => exact ⟨a2, a3⟩
  unfold RW.tick
  by_cases c : R.way = none
  · have e1 : (if R.way = none then R.start else R) = R.start := if_pos c
    rw [c, oI_none] at n2
    have nx := nextMessage_d hx h 0
    have q := start_d h c hl
    cases es : R.servedAs 0 with
    | none =>
      rw [es] at q nx
      obtain ⟨D', a1, a2⟩ := body q.1 q.2
      refine ⟨D', ?_, ?_⟩
      · have d2 : upd D 2 (-1) = D := funext fun j => by
          by_cases cj : j = 2
          · subst cj; rw [upd_at, n2]
          · rw [upd_ne cj]
        simp only [f_X8_tick, dG hx, dI hx, cond_true, dL2, n2, if_true, nx, oI_none, Option.bind_some, dS2, d2, a1]
      · rw [e1]; exact a2
    | some i =>
      rw [es] at q nx
      obtain ⟨qi, q1, q2⟩ := q
      have hi : i < 8 := by have := h.inv.1; omega
      have ni : ¬ nI i = -1 := nI_neN (by omega)
      obtain ⟨D', a1, a2⟩ := body q1 q2
      refine ⟨D', ?_, ?_⟩
      · have d0 : upd (upd D 2 (nI i)) (112 + 102 * i + 3) 1 0 = nI R.time := by rw [upd_ne (by omega), upd_ne (by omega)]; exact n0
        simp only [f_X8_tick, dG hx, dI hx, cond_true, dL2, n2, if_true, nx, oI_some, ni, if_false, Option.bind_some, dS2, msS3 hx hi, dL0, d0, msS4 hx hi, a1]
      · rw [e1]; exact a2
  · have e1 : (if R.way = none then R.start else R) = R := if_neg c
    have nc : ¬ D 2 = -1 := by
      rw [n2]
      cases ew : R.way with
      | none => exact absurd ew c
      | some k => exact nI_neN (by have := h.inv.1; have := h.inv.2.2.2.2.1 k ew; omega)
    obtain ⟨D', a1, a2⟩ := body h hl
    refine ⟨D', ?_, ?_⟩
    · simp only [f_X8_tick, dG hx, dL2, nc, if_false, Option.bind_some, a1]
    · rw [e1]; exact a2
end REL8
