/-! a step of a channel -/
def flm (x : Int32) : Int32 := if x ^^^ 26 < 0 then (if g_rem x 26 = 0 then g_rem x 26 else g_rem x 26 + 26) else g_rem x 26
theorem flm_of (h : gH) (x : Int32) : f_J9_floorMod_7cf53 h x 26 = some (flm x) := by
  unfold f_J9_floorMod_7cf53 flm
  rw [if_neg (by decide)]
  split
  · split <;> rfl
  · rfl
def RW.kp (R : RW) (s : Int32) : RKp := if s = 0 then R.k0 else R.k1
def RW.ch (R : RW) (b : Bool) : RCh := if b then R.c1 else R.c0
def RW.setCh (R : RW) (b : Bool) (C : RCh) : RW := if b then (RW.mk R.time R.told R.way R.fsize R.limit R.sent R.lost R.garbled R.given R.no R.c0 C R.k0 R.k1 R.mi R.ms) else (RW.mk R.time R.told R.way R.fsize R.limit R.sent R.lost R.garbled R.given R.no C R.c1 R.k0 R.k1 R.mi R.ms)
def RW.setMs (R : RW) (m : Nat) (M : RMs) : RW := (RW.mk R.time R.told R.way R.fsize R.limit R.sent R.lost R.garbled R.given R.no R.c0 R.c1 R.k0 R.k1 R.mi (updM R.ms m M))
/-- what a channel that has a frame of M in work is good for -/
def RCh.ok (C : RCh) (M : RMs) : Prop := C.frame = -1 ∨ ∃ f s b : Nat, C.frame = nI f ∧ C.step = nI s ∧ C.number = nI b ∧ f < M.frames ∧ f * M.fsize < M.len ∧ s ≤ M.many f + 2 ∧ b < 26
def RW.madeStep (R : RW) (b : Bool) (m : Nat) (lost garbled : Bool) : RW :=
  let C := R.ch b
  let M := R.ms m
  let f := C.frame.toNatClampNeg
  let k := M.many f
  if nI k + 1 < C.step then
    let y := M.endTry f (!lost && (C.good != garbled)) R.limit
    let R1 := (R.setCh b (C.take (-1))).setMs m y.2
    if y.1 then (RW.mk R1.time R1.told R1.way R1.fsize R1.limit R1.sent R1.lost R1.garbled (R1.given + 1) R1.no R1.c0 R1.c1 R1.k0 R1.k1 R1.mi R1.ms) else R1
  else
    let C1 : RCh := if lost then (RCh.mk C.power C.opening C.closing C.frame C.step C.number C.n C.heard true C.good) else C
    if C.step = 0 then R.setCh b (RCh.mk C1.power C1.opening C1.closing C1.frame (C1.step + 1) (g_rem (nI f + bI garbled) 26) C1.n C1.heard C1.lost C1.good)
    else if C.step ≤ nI k then
      R.setCh b ((C1.hear (flm (M.letters (f * M.fsize + C.step.toNatClampNeg - 1) + ((R.kp M.sender).keyAt (nI R.time) - (R.kp (1 - M.sender)).keyAt (nI R.time)) + bI garbled))).s_step (C1.step + 1))
    else
      let C2 := C1.judge k (g_rem (M.check f + bI garbled) 26)
      let M2 := if C2.good then M.written C2.number.toNatClampNeg C2.heard k else M
      (R.setMs m M2).setCh b (RCh.mk C2.power C2.opening C2.closing C2.frame (C2.step + 1) C2.number C2.n C2.heard C2.lost C2.good)
theorem keepersOf_wd (h : gH) (w : Nat) (R : RW) (hk0 : R.k0.told ≤ 8) (hk1 : R.k1.told ≤ 8) (s t : Int32) : ∃ p, f_X6_keepersOf (wdP h w R) w s = some p ∧ g_is (wdP h w R) p 2 = true ∧ f_X2_keyAt (wdP h w R) p t = some ((R.kp s).keyAt t) := by
  unfold f_X6_keepersOf RW.kp
  by_cases c : s = 0
  · refine ⟨w + 11, by simp [RCh_s, RKp_s, RMs_s, RMi_s, RW_s, bI_t, bI_f, oI_none, oI_some, SIM_m40, SIM_m45, SIM_m46, c], w_k0_g h w R, ?_⟩
    rw [if_pos c]; exact w_k0_keyAt h w R hk0 t
  · refine ⟨w + 14, by simp [RCh_s, RKp_s, RMs_s, RMi_s, RW_s, bI_t, bI_f, oI_none, oI_some, SIM_m40, SIM_m45, SIM_m46, c], w_k1_g h w R, ?_⟩
    rw [if_neg c]; exact w_k1_keyAt h w R hk1 t
theorem updM_self (f : Nat → RMs) (m : Nat) : updM f m (f m) = f := funext fun j => by unfold updM; split <;> simp_all
theorem updM_at (f : Nat → RMs) (m : Nat) (M : RMs) : updM f m M m = M := by simp [RCh_s, RKp_s, RMs_s, RMi_s, RW_s, bI_t, bI_f, oI_none, oI_some, SIM_m40, SIM_m45, SIM_m46, updM]
theorem many_le {M : RMs} (hM : M.ok) (f : Nat) : M.many f ≤ 8 := by have := hM.2.2.2; unfold RMs.many; omega
theorem written_frames (M : RMs) (b : Nat) (g : Nat → Int32) (k : Nat) : (M.written b g k).frames = M.frames ∧ (M.written b g k).unf = M.unf := by unfold RMs.written; split <;> exact ⟨rfl, rfl⟩
theorem b240_c0 (h : gH) (w : Nat) (R : RW) : f_X6_makeStep_b240 (wdP h w R) (w + 7) = some (wdP h w (RW.mk R.time R.told R.way R.fsize R.limit R.sent R.lost R.garbled R.given R.no ((RCh.mk R.c0.power R.c0.opening R.c0.closing R.c0.frame (R.c0.step + 1) R.c0.number R.c0.n R.c0.heard R.c0.lost R.c0.good)) R.c1 R.k0 R.k1 R.mi R.ms)) := by
  simp only [RCh_s, RKp_s, RMs_s, RMi_s, RW_s, f_X6_makeStep_b240, w_c0_Gstep, w_c0_Tstep, Option.bind_some]
theorem b55_c0 {h : gH} {w : Nat} {R : RW} {m f : Nat} (hm : m < 8) (hf : f < 24) (yes : Bool) : f_X6_makeStep_b55 (wdP h w R) w (w + 7) (w + 21 + 5 * m) (nI f) (bI yes) = some (wdP h w (let y := (R.ms m).endTry f yes R.limit; let R1 := ((RW.mk R.time R.told R.way R.fsize R.limit R.sent R.lost R.garbled R.given R.no (R.c0.take (-1)) R.c1 R.k0 R.k1 R.mi R.ms) : RW).setMs m y.2; if y.1 then (RW.mk R1.time R1.told R1.way R1.fsize R1.limit R1.sent R1.lost R1.garbled (R1.given + 1) R1.no R1.c0 R1.c1 R1.k0 R1.k1 R1.mi R1.ms) else R1)) := by
  have h10 : ((1 : Int32) = 0) = False := eq_false (by decide)
  simp only [RCh_s, RKp_s, RMs_s, RMi_s, RW_s, f_X6_makeStep_b55, w_c0_g, cond_true, w_c0_becomeIdle, wdG_limit, Option.bind_some, w_ms_g h w (RW.mk R.time R.told R.way R.fsize R.limit R.sent R.lost R.garbled R.given R.no (R.c0.take (-1)) R.c1 R.k0 R.k1 R.mi R.ms) hm, w_ms_endTry h w (RW.mk R.time R.told R.way R.fsize R.limit R.sent R.lost R.garbled R.given R.no (R.c0.take (-1)) R.c1 R.k0 R.k1 R.mi R.ms) hm hf]
  cases (((R.ms m).endTry f yes R.limit).1)
  · simp only [RCh_s, RKp_s, RMs_s, RMi_s, RW_s, bI_f, if_true]; rfl
  · simp only [RCh_s, RKp_s, RMs_s, RMi_s, RW_s, bI_t, h10, if_false, wdG_given, wdT_given, Option.bind_some]; rfl
theorem b96_c0 {h : gH} {w : Nat} {R : RW} {m f s b : Nat} (hm : m < 8) (hM : (R.ms m).ok) (hk0 : R.k0.told ≤ 8) (hk1 : R.k1.told ≤ 8) (hf : f * (R.ms m).fsize < (R.ms m).len) (es : R.c0.step = nI s) (eb : R.c0.number = nI b) (hs : s ≤ (R.ms m).many f + 1) (hb : b < 26) (garbled : Bool) :
    f_X6_makeStep_b96 (wdP h w R) w (w + 7) (w + 21 + 5 * m) (nI f) (nI ((R.ms m).many f)) (bI garbled) = some (wdP h w (
      if R.c0.step = 0 then (RW.mk R.time R.told R.way R.fsize R.limit R.sent R.lost R.garbled R.given R.no ((RCh.mk R.c0.power R.c0.opening R.c0.closing R.c0.frame (R.c0.step + 1) (g_rem (nI f + bI garbled) 26) R.c0.n R.c0.heard R.c0.lost R.c0.good)) R.c1 R.k0 R.k1 R.mi R.ms)
      else if R.c0.step ≤ nI ((R.ms m).many f) then (RW.mk R.time R.told R.way R.fsize R.limit R.sent R.lost R.garbled R.given R.no (((R.c0.hear (flm ((R.ms m).letters (f * (R.ms m).fsize + s - 1) + ((R.kp (R.ms m).sender).keyAt (nI R.time) - (R.kp (1 - (R.ms m).sender)).keyAt (nI R.time)) + bI garbled))).s_step (R.c0.step + 1))) R.c1 R.k0 R.k1 R.mi R.ms)
      else
        let C2 := R.c0.judge ((R.ms m).many f) (g_rem ((R.ms m).check f + bI garbled) 26)
        let M2 := if C2.good then (R.ms m).written b C2.heard ((R.ms m).many f) else R.ms m
        (RW.mk R.time R.told R.way R.fsize R.limit R.sent R.lost R.garbled R.given R.no ((RCh.mk C2.power C2.opening C2.closing C2.frame (C2.step + 1) C2.number C2.n C2.heard C2.lost C2.good)) R.c1 R.k0 R.k1 R.mi (updM R.ms m M2)))) := by
  have hm8 := many_le hM f
  have h10 : ((1 : Int32) = 0) = False := eq_false (by decide)
  have mf : (R.ms m).many f ≤ (R.ms m).len - f * (R.ms m).fsize := by unfold RMs.many; omega
  have l24 := hM.1
  simp only [RCh_s, RKp_s, RMs_s, RMi_s, RW_s, f_X6_makeStep_b96, w_c0_Gstep, Option.bind_some]
  by_cases c0 : R.c0.step = 0
  · simp only [RCh_s, RKp_s, RMs_s, RMi_s, RW_s, c0, if_true, w_c0_Tnumber, Option.bind_some, b240_c0]
  · have s0 : 0 < s := Nat.pos_of_ne_zero fun e => c0 (by rw [es, e, nI_0])
    simp only [RCh_s, RKp_s, RMs_s, RMi_s, RW_s, c0, if_false]
    by_cases c1 : R.c0.step ≤ nI ((R.ms m).many f)
    · have sk : s ≤ (R.ms m).many f := (nI_leI (by omega) (by omega)).mp (es ▸ c1)
      obtain ⟨p1, a1, a2, a3⟩ := keepersOf_wd h w R hk0 hk1 (R.ms m).sender (nI R.time)
      obtain ⟨p2, d1, d2, d3⟩ := keepersOf_wd h w R hk0 hk1 (1 - (R.ms m).sender) (nI R.time)
      have ei : nI f * nI (R.ms m).fsize + R.c0.step - 1 = nI (f * (R.ms m).fsize + s - 1) := by
        rw [es, nI_mul, nI_add, show (1 : Int32) = nI 1 by decide, nI_sub (by omega)]
      simp only [RCh_s, RKp_s, RMs_s, RMi_s, RW_s, c1, if_true, w_ms_g h w R hm, cond_true, w_ms_firstPlace h w R hm, Option.bind_some, ei, w_ms_letterAt h w R hm, rowAt_in (show f * (R.ms m).fsize + s - 1 < 24 by omega) (by decide), w_ms_Gsender h w R hm, wdP_g, a1, a2, a3, d1, d2, d3, wdG_time, flm_of, w_c0_g, w_c0_hear, b240_c0]
      rfl
    · simp only [RCh_s, RKp_s, RMs_s, RMi_s, RW_s, c1, if_false, w_ms_g h w R hm, cond_true, w_ms_check h w R hm hM (Nat.le_of_lt hf), Option.bind_some, w_c0_g, w_c0_judge h w R (check := g_rem ((R.ms m).check f + bI garbled) 26) hm8, w_c0_Ggood]
      cases cg : (R.c0.judge ((R.ms m).many f) (g_rem ((R.ms m).check f + bI garbled) 26)).good
      · simp only [RCh_s, RKp_s, RMs_s, RMi_s, RW_s, bI_f, if_true, b240_c0, Bool.false_eq_true, if_false, updM_self, cg]
      · have en : (R.c0.judge ((R.ms m).many f) (g_rem ((R.ms m).check f + bI garbled) 26)).number = nI b := eb
        simp only [RCh_s, RKp_s, RMs_s, RMi_s, RW_s, bI_t, h10, if_false, w_c0_Gnumber, w_c0_heard, Option.bind_some, en, w_ms_g h w (RW.mk R.time R.told R.way R.fsize R.limit R.sent R.lost R.garbled R.given R.no (R.c0.judge ((R.ms m).many f) (g_rem ((R.ms m).check f + bI garbled) 26)) R.c1 R.k0 R.k1 R.mi R.ms) hm, cond_true, w_ms_written0 h w (RW.mk R.time R.told R.way R.fsize R.limit R.sent R.lost R.garbled R.given R.no (R.c0.judge ((R.ms m).many f) (g_rem ((R.ms m).check f + bI garbled) 26)) R.c1 R.k0 R.k1 R.mi R.ms) hm hM hb hm8, b240_c0, if_true, cg]
theorem madeStep_c0 {h : gH} {w : Nat} {R : RW} {m : Nat} (hR : R.ok) (hm : m < R.told) (hC : R.c0.ok (R.ms m)) (hi : R.c0.frame ≠ -1) (lost garbled : Bool) : f_X6_makeStep (wdP h w R) w (w + 7) (w + 21 + 5 * m) (bI lost) (bI garbled) = some (wdP h w (R.madeStep false m lost garbled)) := by
  obtain ⟨f, s, b, e1, e2, e3, f1, f2, f3, f4⟩ := hC.resolve_left hi
  have hm8 : m < 8 := by have := hR.told; omega
  have hM := hR.ms m hm
  have hf24 : f < 24 := by have := hM.2.1; omega
  have k8 := many_le hM f
  have h10 : ((1 : Int32) = 0) = False := eq_false (by decide)
  have ef : (nI f).toNatClampNeg = f := nI_clamp (by omega)
  have est : (nI s).toNatClampNeg = s := nI_clamp (by omega)
  have ebt : (nI b).toNatClampNeg = b := nI_clamp (by omega)
  have e24 : f_X6_makeStep_b24 (wdP h w R) w (w + 7) (w + 21 + 5 * m) (bI lost) (bI garbled) (nI f) (nI ((R.ms m).many f)) (bI garbled) = some (wdP h w (R.madeStep false m lost garbled)) := by
    simp only [RCh_s, RKp_s, RMs_s, RMi_s, RW_s, f_X6_makeStep_b24, w_c0_Gstep, Option.bind_some]
    unfold RW.madeStep
    simp only [RCh_s, RKp_s, RMs_s, RMi_s, RW_s, RW.ch, Bool.false_eq_true, if_false, e1, ef]
    by_cases c : nI ((R.ms m).many f) + 1 < R.c0.step
    · simp only [RCh_s, RKp_s, RMs_s, RMi_s, RW_s, Bool.false_eq_true, if_false, c, if_true]
      have y := b55_c0 (h := h) (w := w) (R := R) hm8 hf24
      have y0 := y false
      have y1 := y true
      simp only [RCh_s, RKp_s, RMs_s, RMi_s, RW_s, bI_f, bI_t] at y0 y1
      cases lost
      · simp only [RCh_s, RKp_s, RMs_s, RMi_s, RW_s, bI_f, if_true, w_c0_Ggood, Option.bind_some, f_X6_makeStep_b54, Bool.not_false, Bool.true_and]
        cases R.c0.good <;> cases garbled <;> simp only [RCh_s, RKp_s, RMs_s, RMi_s, RW_s, bI_f, bI_t, h10, if_true, if_false, y0, y1, Bool.bne_true, Bool.bne_false, Bool.not_true, Bool.not_false, RW.setCh, Bool.false_eq_true, if_false] <;> rfl
      · simp only [RCh_s, RKp_s, RMs_s, RMi_s, RW_s, bI_t, h10, if_false, f_X6_makeStep_b54, y0, Bool.not_true, Bool.false_and, RW.setCh, Bool.false_eq_true, if_false]
    · have hs1 : s ≤ (R.ms m).many f + 1 := by
        rw [e2, show (1 : Int32) = nI 1 by decide, nI_add, nI_ltI (by omega) (by omega)] at c
        omega
      simp only [RCh_s, RKp_s, RMs_s, RMi_s, RW_s, Bool.false_eq_true, if_false, c, if_false]
      cases lost
      · simp only [RCh_s, RKp_s, RMs_s, RMi_s, RW_s, bI_f, if_true, b96_c0 (h := h) (w := w) (R := R) hm8 hM hR.k0 hR.k1 f2 e2 e3 hs1 f4, Bool.false_eq_true, if_false, RW.setCh, Bool.false_eq_true, if_false, RW.setMs, e2, est]
        refine congrArg some (congrArg (wdP h w) ?_)
        split
        · rfl
        · split
          · rfl
          · have en : (R.c0.judge ((R.ms m).many f) (g_rem ((R.ms m).check f + bI garbled) 26)).number.toNatClampNeg = b := by show R.c0.number.toNatClampNeg = b; rw [e3, ebt]
            simp only [RCh_s, RKp_s, RMs_s, RMi_s, RW_s, en]
      · have tl := w_c0_Tlost h w R true
        simp only [RCh_s, RKp_s, RMs_s, RMi_s, RW_s, bI_t] at tl
        have q := b96_c0 (h := h) (w := w) (R := (RW.mk R.time R.told R.way R.fsize R.limit R.sent R.lost R.garbled R.given R.no ((RCh.mk R.c0.power R.c0.opening R.c0.closing R.c0.frame R.c0.step R.c0.number R.c0.n R.c0.heard true R.c0.good)) R.c1 R.k0 R.k1 R.mi R.ms)) hm8 hM hR.k0 hR.k1 f2 e2 e3 hs1 f4 garbled
        dsimp only [RCh_power, RCh_u_power, RCh_opening, RCh_u_opening, RCh_closing, RCh_u_closing, RCh_frame, RCh_u_frame, RCh_step, RCh_u_step, RCh_number, RCh_u_number, RCh_n, RCh_u_n, RCh_heard, RCh_u_heard, RCh_lost, RCh_u_lost, RCh_good, RCh_u_good, RKp_told, RKp_u_told, RKp_ticks, RKp_u_ticks, RKp_keys, RKp_u_keys, RMs_sender, RMs_u_sender, RMs_urgency, RMs_u_urgency, RMs_len, RMs_u_len, RMs_fsize, RMs_u_fsize, RMs_frames, RMs_u_frames, RMs_phase, RMs_u_phase, RMs_began, RMs_u_began, RMs_ended, RMs_u_ended, RMs_unf, RMs_u_unf, RMs_letters, RMs_u_letters, RMs_log, RMs_u_log, RMs_fst, RMs_u_fst, RMs_tries, RMs_u_tries, RMi_told, RMi_u_told, RMi_firsts, RMi_u_firsts, RMi_lasts, RMi_u_lasts, RMi_levels, RMi_u_levels, RW_time, RW_u_time, RW_told, RW_u_told, RW_way, RW_u_way, RW_fsize, RW_u_fsize, RW_limit, RW_u_limit, RW_sent, RW_u_sent, RW_lost, RW_u_lost, RW_garbled, RW_u_garbled, RW_given, RW_u_given, RW_no, RW_u_no, RW_c0, RW_u_c0, RW_c1, RW_u_c1, RW_k0, RW_u_k0, RW_k1, RW_u_k1, RW_mi, RW_u_mi, RW_ms, RW_u_ms, RCh_eta, RKp_eta, RMs_eta, RMi_eta, RW_eta] at q
        simp only [RCh_s, RKp_s, RMs_s, RMi_s, RW_s, bI_t, h10, if_false, tl, Option.bind_some]
        rw [q]
        simp only [RCh_s, RKp_s, RMs_s, RMi_s, RW_s, if_true, RW.setCh, Bool.false_eq_true, if_false, RW.setMs, e1, e2, est, RW.kp]
        refine congrArg some (congrArg (wdP h w) ?_)
        split
        · rfl
        · split
          · rfl
          · simp only [RCh_s, RKp_s, RMs_s, RMi_s, RW_s, RCh.judge, e3, ebt]
  simp only [RCh_s, RKp_s, RMs_s, RMi_s, RW_s, f_X6_makeStep, w_c0_Gframe, e1, Option.bind_some, w_ms_g h w R hm8, cond_true, w_ms_lettersIn h w R hm8 hM (Nat.le_of_lt f2)]
  cases garbled
  · simp only [RCh_s, RKp_s, RMs_s, RMi_s, RW_s, bI_f, if_true] at e24 ⊢; exact e24
  · simp only [RCh_s, RKp_s, RMs_s, RMi_s, RW_s, bI_t, h10, if_false] at e24 ⊢; exact e24
theorem b240_c1 (h : gH) (w : Nat) (R : RW) : f_X6_makeStep_b240 (wdP h w R) (w + 9) = some (wdP h w (RW.mk R.time R.told R.way R.fsize R.limit R.sent R.lost R.garbled R.given R.no R.c0 ((RCh.mk R.c1.power R.c1.opening R.c1.closing R.c1.frame (R.c1.step + 1) R.c1.number R.c1.n R.c1.heard R.c1.lost R.c1.good)) R.k0 R.k1 R.mi R.ms)) := by
  simp only [RCh_s, RKp_s, RMs_s, RMi_s, RW_s, f_X6_makeStep_b240, w_c1_Gstep, w_c1_Tstep, Option.bind_some]
theorem b55_c1 {h : gH} {w : Nat} {R : RW} {m f : Nat} (hm : m < 8) (hf : f < 24) (yes : Bool) : f_X6_makeStep_b55 (wdP h w R) w (w + 9) (w + 21 + 5 * m) (nI f) (bI yes) = some (wdP h w (let y := (R.ms m).endTry f yes R.limit; let R1 := ((RW.mk R.time R.told R.way R.fsize R.limit R.sent R.lost R.garbled R.given R.no R.c0 (R.c1.take (-1)) R.k0 R.k1 R.mi R.ms) : RW).setMs m y.2; if y.1 then (RW.mk R1.time R1.told R1.way R1.fsize R1.limit R1.sent R1.lost R1.garbled (R1.given + 1) R1.no R1.c0 R1.c1 R1.k0 R1.k1 R1.mi R1.ms) else R1)) := by
  have h10 : ((1 : Int32) = 0) = False := eq_false (by decide)
  simp only [RCh_s, RKp_s, RMs_s, RMi_s, RW_s, f_X6_makeStep_b55, w_c1_g, cond_true, w_c1_becomeIdle, wdG_limit, Option.bind_some, w_ms_g h w (RW.mk R.time R.told R.way R.fsize R.limit R.sent R.lost R.garbled R.given R.no R.c0 (R.c1.take (-1)) R.k0 R.k1 R.mi R.ms) hm, w_ms_endTry h w (RW.mk R.time R.told R.way R.fsize R.limit R.sent R.lost R.garbled R.given R.no R.c0 (R.c1.take (-1)) R.k0 R.k1 R.mi R.ms) hm hf]
  cases (((R.ms m).endTry f yes R.limit).1)
  · simp only [RCh_s, RKp_s, RMs_s, RMi_s, RW_s, bI_f, if_true]; rfl
  · simp only [RCh_s, RKp_s, RMs_s, RMi_s, RW_s, bI_t, h10, if_false, wdG_given, wdT_given, Option.bind_some]; rfl
theorem b96_c1 {h : gH} {w : Nat} {R : RW} {m f s b : Nat} (hm : m < 8) (hM : (R.ms m).ok) (hk0 : R.k0.told ≤ 8) (hk1 : R.k1.told ≤ 8) (hf : f * (R.ms m).fsize < (R.ms m).len) (es : R.c1.step = nI s) (eb : R.c1.number = nI b) (hs : s ≤ (R.ms m).many f + 1) (hb : b < 26) (garbled : Bool) :
    f_X6_makeStep_b96 (wdP h w R) w (w + 9) (w + 21 + 5 * m) (nI f) (nI ((R.ms m).many f)) (bI garbled) = some (wdP h w (
      if R.c1.step = 0 then (RW.mk R.time R.told R.way R.fsize R.limit R.sent R.lost R.garbled R.given R.no R.c0 ((RCh.mk R.c1.power R.c1.opening R.c1.closing R.c1.frame (R.c1.step + 1) (g_rem (nI f + bI garbled) 26) R.c1.n R.c1.heard R.c1.lost R.c1.good)) R.k0 R.k1 R.mi R.ms)
      else if R.c1.step ≤ nI ((R.ms m).many f) then (RW.mk R.time R.told R.way R.fsize R.limit R.sent R.lost R.garbled R.given R.no R.c0 (((R.c1.hear (flm ((R.ms m).letters (f * (R.ms m).fsize + s - 1) + ((R.kp (R.ms m).sender).keyAt (nI R.time) - (R.kp (1 - (R.ms m).sender)).keyAt (nI R.time)) + bI garbled))).s_step (R.c1.step + 1))) R.k0 R.k1 R.mi R.ms)
      else
        let C2 := R.c1.judge ((R.ms m).many f) (g_rem ((R.ms m).check f + bI garbled) 26)
        let M2 := if C2.good then (R.ms m).written b C2.heard ((R.ms m).many f) else R.ms m
        (RW.mk R.time R.told R.way R.fsize R.limit R.sent R.lost R.garbled R.given R.no R.c0 ((RCh.mk C2.power C2.opening C2.closing C2.frame (C2.step + 1) C2.number C2.n C2.heard C2.lost C2.good)) R.k0 R.k1 R.mi (updM R.ms m M2)))) := by
  have hm8 := many_le hM f
  have h10 : ((1 : Int32) = 0) = False := eq_false (by decide)
  have mf : (R.ms m).many f ≤ (R.ms m).len - f * (R.ms m).fsize := by unfold RMs.many; omega
  have l24 := hM.1
  simp only [RCh_s, RKp_s, RMs_s, RMi_s, RW_s, f_X6_makeStep_b96, w_c1_Gstep, Option.bind_some]
  by_cases c0 : R.c1.step = 0
  · simp only [RCh_s, RKp_s, RMs_s, RMi_s, RW_s, c0, if_true, w_c1_Tnumber, Option.bind_some, b240_c1]
  · have s0 : 0 < s := Nat.pos_of_ne_zero fun e => c0 (by rw [es, e, nI_0])
    simp only [RCh_s, RKp_s, RMs_s, RMi_s, RW_s, c0, if_false]
    by_cases c1 : R.c1.step ≤ nI ((R.ms m).many f)
    · have sk : s ≤ (R.ms m).many f := (nI_leI (by omega) (by omega)).mp (es ▸ c1)
      obtain ⟨p1, a1, a2, a3⟩ := keepersOf_wd h w R hk0 hk1 (R.ms m).sender (nI R.time)
      obtain ⟨p2, d1, d2, d3⟩ := keepersOf_wd h w R hk0 hk1 (1 - (R.ms m).sender) (nI R.time)
      have ei : nI f * nI (R.ms m).fsize + R.c1.step - 1 = nI (f * (R.ms m).fsize + s - 1) := by
        rw [es, nI_mul, nI_add, show (1 : Int32) = nI 1 by decide, nI_sub (by omega)]
      simp only [RCh_s, RKp_s, RMs_s, RMi_s, RW_s, c1, if_true, w_ms_g h w R hm, cond_true, w_ms_firstPlace h w R hm, Option.bind_some, ei, w_ms_letterAt h w R hm, rowAt_in (show f * (R.ms m).fsize + s - 1 < 24 by omega) (by decide), w_ms_Gsender h w R hm, wdP_g, a1, a2, a3, d1, d2, d3, wdG_time, flm_of, w_c1_g, w_c1_hear, b240_c1]
      rfl
    · simp only [RCh_s, RKp_s, RMs_s, RMi_s, RW_s, c1, if_false, w_ms_g h w R hm, cond_true, w_ms_check h w R hm hM (Nat.le_of_lt hf), Option.bind_some, w_c1_g, w_c1_judge h w R (check := g_rem ((R.ms m).check f + bI garbled) 26) hm8, w_c1_Ggood]
      cases cg : (R.c1.judge ((R.ms m).many f) (g_rem ((R.ms m).check f + bI garbled) 26)).good
      · simp only [RCh_s, RKp_s, RMs_s, RMi_s, RW_s, bI_f, if_true, b240_c1, Bool.false_eq_true, if_false, updM_self, cg]
      · have en : (R.c1.judge ((R.ms m).many f) (g_rem ((R.ms m).check f + bI garbled) 26)).number = nI b := eb
        simp only [RCh_s, RKp_s, RMs_s, RMi_s, RW_s, bI_t, h10, if_false, w_c1_Gnumber, w_c1_heard, Option.bind_some, en, w_ms_g h w (RW.mk R.time R.told R.way R.fsize R.limit R.sent R.lost R.garbled R.given R.no R.c0 (R.c1.judge ((R.ms m).many f) (g_rem ((R.ms m).check f + bI garbled) 26)) R.k0 R.k1 R.mi R.ms) hm, cond_true, w_ms_written1 h w (RW.mk R.time R.told R.way R.fsize R.limit R.sent R.lost R.garbled R.given R.no R.c0 (R.c1.judge ((R.ms m).many f) (g_rem ((R.ms m).check f + bI garbled) 26)) R.k0 R.k1 R.mi R.ms) hm hM hb hm8, b240_c1, if_true, cg]
theorem madeStep_c1 {h : gH} {w : Nat} {R : RW} {m : Nat} (hR : R.ok) (hm : m < R.told) (hC : R.c1.ok (R.ms m)) (hi : R.c1.frame ≠ -1) (lost garbled : Bool) : f_X6_makeStep (wdP h w R) w (w + 9) (w + 21 + 5 * m) (bI lost) (bI garbled) = some (wdP h w (R.madeStep true m lost garbled)) := by
  obtain ⟨f, s, b, e1, e2, e3, f1, f2, f3, f4⟩ := hC.resolve_left hi
  have hm8 : m < 8 := by have := hR.told; omega
  have hM := hR.ms m hm
  have hf24 : f < 24 := by have := hM.2.1; omega
  have k8 := many_le hM f
  have h10 : ((1 : Int32) = 0) = False := eq_false (by decide)
  have ef : (nI f).toNatClampNeg = f := nI_clamp (by omega)
  have est : (nI s).toNatClampNeg = s := nI_clamp (by omega)
  have ebt : (nI b).toNatClampNeg = b := nI_clamp (by omega)
  have e24 : f_X6_makeStep_b24 (wdP h w R) w (w + 9) (w + 21 + 5 * m) (bI lost) (bI garbled) (nI f) (nI ((R.ms m).many f)) (bI garbled) = some (wdP h w (R.madeStep true m lost garbled)) := by
    simp only [RCh_s, RKp_s, RMs_s, RMi_s, RW_s, f_X6_makeStep_b24, w_c1_Gstep, Option.bind_some]
    unfold RW.madeStep
    simp only [RCh_s, RKp_s, RMs_s, RMi_s, RW_s, RW.ch, if_true, e1, ef]
    by_cases c : nI ((R.ms m).many f) + 1 < R.c1.step
    · simp only [RCh_s, RKp_s, RMs_s, RMi_s, RW_s, if_true, c, if_true]
      have y := b55_c1 (h := h) (w := w) (R := R) hm8 hf24
      have y0 := y false
      have y1 := y true
      simp only [RCh_s, RKp_s, RMs_s, RMi_s, RW_s, bI_f, bI_t] at y0 y1
      cases lost
      · simp only [RCh_s, RKp_s, RMs_s, RMi_s, RW_s, bI_f, if_true, w_c1_Ggood, Option.bind_some, f_X6_makeStep_b54, Bool.not_false, Bool.true_and]
        cases R.c1.good <;> cases garbled <;> simp only [RCh_s, RKp_s, RMs_s, RMi_s, RW_s, bI_f, bI_t, h10, if_true, if_false, y0, y1, Bool.bne_true, Bool.bne_false, Bool.not_true, Bool.not_false, RW.setCh, if_true] <;> rfl
      · simp only [RCh_s, RKp_s, RMs_s, RMi_s, RW_s, bI_t, h10, if_false, f_X6_makeStep_b54, y0, Bool.not_true, Bool.false_and, RW.setCh, if_true]
    · have hs1 : s ≤ (R.ms m).many f + 1 := by
        rw [e2, show (1 : Int32) = nI 1 by decide, nI_add, nI_ltI (by omega) (by omega)] at c
        omega
      simp only [RCh_s, RKp_s, RMs_s, RMi_s, RW_s, if_true, c, if_false]
      cases lost
      · simp only [RCh_s, RKp_s, RMs_s, RMi_s, RW_s, bI_f, if_true, b96_c1 (h := h) (w := w) (R := R) hm8 hM hR.k0 hR.k1 f2 e2 e3 hs1 f4, Bool.false_eq_true, if_false, RW.setCh, if_true, RW.setMs, e2, est]
        refine congrArg some (congrArg (wdP h w) ?_)
        split
        · rfl
        · split
          · rfl
          · have en : (R.c1.judge ((R.ms m).many f) (g_rem ((R.ms m).check f + bI garbled) 26)).number.toNatClampNeg = b := by show R.c1.number.toNatClampNeg = b; rw [e3, ebt]
            simp only [RCh_s, RKp_s, RMs_s, RMi_s, RW_s, en]
      · have tl := w_c1_Tlost h w R true
        simp only [RCh_s, RKp_s, RMs_s, RMi_s, RW_s, bI_t] at tl
        have q := b96_c1 (h := h) (w := w) (R := (RW.mk R.time R.told R.way R.fsize R.limit R.sent R.lost R.garbled R.given R.no R.c0 ((RCh.mk R.c1.power R.c1.opening R.c1.closing R.c1.frame R.c1.step R.c1.number R.c1.n R.c1.heard true R.c1.good)) R.k0 R.k1 R.mi R.ms)) hm8 hM hR.k0 hR.k1 f2 e2 e3 hs1 f4 garbled
        dsimp only [RCh_power, RCh_u_power, RCh_opening, RCh_u_opening, RCh_closing, RCh_u_closing, RCh_frame, RCh_u_frame, RCh_step, RCh_u_step, RCh_number, RCh_u_number, RCh_n, RCh_u_n, RCh_heard, RCh_u_heard, RCh_lost, RCh_u_lost, RCh_good, RCh_u_good, RKp_told, RKp_u_told, RKp_ticks, RKp_u_ticks, RKp_keys, RKp_u_keys, RMs_sender, RMs_u_sender, RMs_urgency, RMs_u_urgency, RMs_len, RMs_u_len, RMs_fsize, RMs_u_fsize, RMs_frames, RMs_u_frames, RMs_phase, RMs_u_phase, RMs_began, RMs_u_began, RMs_ended, RMs_u_ended, RMs_unf, RMs_u_unf, RMs_letters, RMs_u_letters, RMs_log, RMs_u_log, RMs_fst, RMs_u_fst, RMs_tries, RMs_u_tries, RMi_told, RMi_u_told, RMi_firsts, RMi_u_firsts, RMi_lasts, RMi_u_lasts, RMi_levels, RMi_u_levels, RW_time, RW_u_time, RW_told, RW_u_told, RW_way, RW_u_way, RW_fsize, RW_u_fsize, RW_limit, RW_u_limit, RW_sent, RW_u_sent, RW_lost, RW_u_lost, RW_garbled, RW_u_garbled, RW_given, RW_u_given, RW_no, RW_u_no, RW_c0, RW_u_c0, RW_c1, RW_u_c1, RW_k0, RW_u_k0, RW_k1, RW_u_k1, RW_mi, RW_u_mi, RW_ms, RW_u_ms, RCh_eta, RKp_eta, RMs_eta, RMi_eta, RW_eta] at q
        simp only [RCh_s, RKp_s, RMs_s, RMi_s, RW_s, bI_t, h10, if_false, tl, Option.bind_some]
        rw [q]
        simp only [RCh_s, RKp_s, RMs_s, RMi_s, RW_s, if_true, RW.setCh, if_true, RW.setMs, e1, e2, est, RW.kp]
        refine congrArg some (congrArg (wdP h w) ?_)
        split
        · rfl
        · split
          · rfl
          · simp only [RCh_s, RKp_s, RMs_s, RMi_s, RW_s, RCh.judge, e3, ebt]
  simp only [RCh_s, RKp_s, RMs_s, RMi_s, RW_s, f_X6_makeStep, w_c1_Gframe, e1, Option.bind_some, w_ms_g h w R hm8, cond_true, w_ms_lettersIn h w R hm8 hM (Nat.le_of_lt f2)]
  cases garbled
  · simp only [RCh_s, RKp_s, RMs_s, RMi_s, RW_s, bI_f, if_true] at e24 ⊢; exact e24
  · simp only [RCh_s, RKp_s, RMs_s, RMi_s, RW_s, bI_t, h10, if_false] at e24 ⊢; exact e24
