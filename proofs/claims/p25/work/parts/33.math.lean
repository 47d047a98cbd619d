/-! the World's other methods -/
theorem chan_cases {b : Bool} (P : Bool → Prop) (h0 : P false) (h1 : P true) : P b := by cases b <;> assumption
/-- is the message on the way; the World after it is taken back -/
def RW.takeBack (R : RW) (m : Nat) : Bool × RW :=
  let R1 := (RW.mk R.time R.told R.way R.fsize R.limit R.sent R.lost R.garbled R.given R.no R.c0 R.c1 R.k0 R.k1 R.mi (updM R.ms m (((R.ms m).s_phase 3).s_ended (nI R.time))))
  if R.way = some m then (true, (RW.mk R1.time R1.told none R1.fsize R1.limit R1.sent R1.lost R1.garbled R1.given R1.no (R.c0.take (-1)) (R.c1.take (-1)) R1.k0 R1.k1 R1.mi R1.ms)) else (false, R1)
theorem takeBack_wd {h : gH} {w : Nat} {R : RW} (hR : R.ok) {m : Nat} (hm : m < R.told) : f_X6_takeBack (wdP h w R) w (nI m) = some (bI (R.takeBack m).1, wdP h w (R.takeBack m).2) := by
  have h8 : m < 8 := by have := hR.told; omega
  have h10 : ((1 : Int32) = 0) = False := eq_false (by decide)
  have ew : nI m = oI R.way ↔ R.way = some m := by
    cases e : R.way with
    | none => simp [RCh_s, RKp_s, RMs_s, RMi_s, RW_s, bI_t, bI_f, oI_none, oI_some, SIM_m40, SIM_m45, SIM_m46, nI_neN (show m < 2 ^ 31 by omega)]
    | some k =>
      have hk := hR.way k e
      have := hR.told
      simp only [RCh_s, RKp_s, RMs_s, RMi_s, RW_s, oI_some, nI_eq (show m < 2 ^ 31 by omega) (show k < 2 ^ 31 by omega), Option.some.injEq]
      exact ⟨fun e => e.symm, fun e => e.symm⟩
  have z0 : g_z 0 = some 0 := rfl
  have z1 : g_z 1 = some 1 := rfl
  simp only [RCh_s, RKp_s, RMs_s, RMi_s, RW_s, f_X6_takeBack, f_X6_takeBack_b13, wdG_way, Option.bind_some, ew, wdP_g, cond_true, msgNo h w R h8, wdG_time, w_ms_g h w R h8, w_ms_end h w R h8, RW.takeBack, h10, if_true, if_false]
  by_cases c : R.way = some m
  · have tw : ∀ R' : RW, g_put (wdP h w R') w 6 2 (.int (-1)) = some (wdP h w (RW.mk R'.time R'.told none R'.fsize R'.limit R'.sent R'.lost R'.garbled R'.given R'.no R'.c0 R'.c1 R'.k0 R'.k1 R'.mi R'.ms)) := fun R' => wdT_way h w R' none
    simp only [RCh_s, RKp_s, RMs_s, RMi_s, RW_s, c, if_true, bI_t, tw, Option.bind_some, wdG_c0, wdG_c1, w_c0_g, w_c1_g, cond_true, w_c0_becomeIdle, w_c1_becomeIdle, z1]
  · simp only [RCh_s, RKp_s, RMs_s, RMi_s, RW_s, c, if_false, bI_f, z0, Option.bind_some]
def RW.clear (R : RW) (z : Nat) (l : Int32) : RW := (RW.mk 0 0 none z l 0 0 0 0 R.no R.c0.clear R.c1.clear ((RKp.mk 0 R.k0.ticks R.k0.keys)) ((RKp.mk 0 R.k1.ticks R.k1.keys)) ((RMi.mk 0 R.mi.firsts R.mi.lasts R.mi.levels)) R.ms)
theorem clear_wd {h : gH} {w : Nat} {R : RW} (z : Nat) (l : Int32) : f_X6_clear (wdP h w R) w (nI z) l = some (wdP h w (R.clear z l)) := by
  have t0 : ∀ R', g_put (wdP h w R') w 6 0 (.int 0) = some (wdP h w (RW.mk 0 R'.told R'.way R'.fsize R'.limit R'.sent R'.lost R'.garbled R'.given R'.no R'.c0 R'.c1 R'.k0 R'.k1 R'.mi R'.ms)) := fun R' => by have := wdT_time h w R' 0; rwa [nI_0] at this
  have t1 : ∀ R', g_put (wdP h w R') w 6 1 (.int 0) = some (wdP h w (R'.s_told 0)) := fun R' => by have := wdT_told h w R' 0; rwa [nI_0] at this
  have t2 : ∀ R', g_put (wdP h w R') w 6 2 (.int (-1)) = some (wdP h w (RW.mk R'.time R'.told none R'.fsize R'.limit R'.sent R'.lost R'.garbled R'.given R'.no R'.c0 R'.c1 R'.k0 R'.k1 R'.mi R'.ms)) := fun R' => wdT_way h w R' none
  have t3 : ∀ R', g_put (wdP h w R') (w + 11) 2 0 (.int 0) = some (wdP h w (RW.mk R'.time R'.told R'.way R'.fsize R'.limit R'.sent R'.lost R'.garbled R'.given R'.no R'.c0 R'.c1 ((RKp.mk 0 R'.k0.ticks R'.k0.keys)) R'.k1 R'.mi R'.ms)) := fun R' => by have := w_k0_Ttold h w R' 0; rwa [nI_0] at this
  have t4 : ∀ R', g_put (wdP h w R') (w + 14) 2 0 (.int 0) = some (wdP h w (RW.mk R'.time R'.told R'.way R'.fsize R'.limit R'.sent R'.lost R'.garbled R'.given R'.no R'.c0 R'.c1 R'.k0 ((RKp.mk 0 R'.k1.ticks R'.k1.keys)) R'.mi R'.ms)) := fun R' => by have := w_k1_Ttold h w R' 0; rwa [nI_0] at this
  have t5 : ∀ R', g_put (wdP h w R') (w + 17) 4 0 (.int 0) = some (wdP h w (RW.mk R'.time R'.told R'.way R'.fsize R'.limit R'.sent R'.lost R'.garbled R'.given R'.no R'.c0 R'.c1 R'.k0 R'.k1 ((RMi.mk 0 R'.mi.firsts R'.mi.lasts R'.mi.levels)) R'.ms)) := fun R' => by have := w_mi_Ttold h w R' 0; rwa [nI_0] at this
  simp only [RCh_s, RKp_s, RMs_s, RMi_s, RW_s, f_X6_clear, t0, t1, t2, t3, t4, t5, wdT_fsize, wdT_limit, wdT_sent, wdT_lost, wdT_garbled, wdT_given, Option.bind_some, wdG_c0, wdG_c1, wdG_k0, wdG_k1, wdG_mi, w_c0_g, w_c1_g, cond_true, w_c0_clear, w_c1_clear]
  rfl
def RW.addMsg (R : RW) (s u : Int32) (T : Nat → Int32) (p n : Nat) : RW := if R.told < 8 then (RW.mk R.time (R.told + 1) R.way R.fsize R.limit R.sent R.lost R.garbled R.given R.no R.c0 R.c1 R.k0 R.k1 R.mi (updM R.ms R.told (((R.ms R.told).become s u R.fsize).letters' T p n))) else R
theorem addMsg_wd {h : gH} {w : Nat} {R : RW} (hR : R.ok) (s u : Int32) {t p n : Nat} {T : Nat → Int32} (hn : n ≤ 24) (hp : p + n ≤ 500) (ht : h.2 t = some (.inl (1, 500, .inl T))) (hw : t < w ∨ w + 61 ≤ t) : f_X6_addMessage (wdP h w R) w s u t (nI p) (nI n) = some (wdP h w (R.addMsg s u T p n)) := by
  have h9 := hR.told
  simp only [RCh_s, RKp_s, RMs_s, RMi_s, RW_s, f_X6_addMessage, wdG_told, Option.bind_some, RW.addMsg, show (8 : Int32) = nI 8 by decide, nI_ltI (show R.told < 2 ^ 31 by omega) (show 8 < 2 ^ 31 by decide)]
  by_cases c : R.told < 8
  · have e := w_ms_letters h w (RW.mk R.time R.told R.way R.fsize R.limit R.sent R.lost R.garbled R.given R.no R.c0 R.c1 R.k0 R.k1 R.mi (updM R.ms R.told ((R.ms R.told).become s u R.fsize))) c (t := t) (p := p) (n := n) (T := T) (by show 1 ≤ (updM R.ms R.told _ R.told).fsize; rw [updM_at]; exact hR.fs1) (by show (updM R.ms R.told _ R.told).fsize ≤ 8; rw [updM_at]; exact hR.fs8) hn hp ht hw
    dsimp only [RCh_power, RCh_u_power, RCh_opening, RCh_u_opening, RCh_closing, RCh_u_closing, RCh_frame, RCh_u_frame, RCh_step, RCh_u_step, RCh_number, RCh_u_number, RCh_n, RCh_u_n, RCh_heard, RCh_u_heard, RCh_lost, RCh_u_lost, RCh_good, RCh_u_good, RKp_told, RKp_u_told, RKp_ticks, RKp_u_ticks, RKp_keys, RKp_u_keys, RMs_sender, RMs_u_sender, RMs_urgency, RMs_u_urgency, RMs_len, RMs_u_len, RMs_fsize, RMs_u_fsize, RMs_frames, RMs_u_frames, RMs_phase, RMs_u_phase, RMs_began, RMs_u_began, RMs_ended, RMs_u_ended, RMs_unf, RMs_u_unf, RMs_letters, RMs_u_letters, RMs_log, RMs_u_log, RMs_fst, RMs_u_fst, RMs_tries, RMs_u_tries, RMi_told, RMi_u_told, RMi_firsts, RMi_u_firsts, RMi_lasts, RMi_u_lasts, RMi_levels, RMi_u_levels, RW_time, RW_u_time, RW_told, RW_u_told, RW_way, RW_u_way, RW_fsize, RW_u_fsize, RW_limit, RW_u_limit, RW_sent, RW_u_sent, RW_lost, RW_u_lost, RW_garbled, RW_u_garbled, RW_given, RW_u_given, RW_no, RW_u_no, RW_c0, RW_u_c0, RW_c1, RW_u_c1, RW_k0, RW_u_k0, RW_k1, RW_u_k1, RW_mi, RW_u_mi, RW_ms, RW_u_ms, RCh_eta, RKp_eta, RMs_eta, RMi_eta, RW_eta] at e
    rw [updM_at] at e
    have e2 : ∀ M M', updM (updM R.ms R.told M) R.told M' = updM R.ms R.told M' := fun M M' => funext fun j => by unfold updM; split <;> rfl
    rw [e2] at e
    simp only [RCh_s, RKp_s, RMs_s, RMi_s, RW_s, c, if_true, wdP_g, cond_true, msgNo h w R c, wdG_fsize, w_ms_g h w R c, w_ms_become h w R c, Option.bind_some, wdG_told, msgNo h w (RW.mk R.time R.told R.way R.fsize R.limit R.sent R.lost R.garbled R.given R.no R.c0 R.c1 R.k0 R.k1 R.mi (updM R.ms R.told ((R.ms R.told).become s u R.fsize))) c, w_ms_g h w (RW.mk R.time R.told R.way R.fsize R.limit R.sent R.lost R.garbled R.given R.no R.c0 R.c1 R.k0 R.k1 R.mi (updM R.ms R.told ((R.ms R.told).become s u R.fsize))) c, e, ← nI_succ, wdT_told]
  · simp only [RCh_s, RKp_s, RMs_s, RMi_s, RW_s, c, if_false]
