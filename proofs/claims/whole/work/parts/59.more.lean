/-! cancel, undo, foretold, leastPower, errorOffset -/
section CHG3
variable {a t : Nat} {h : gH}
theorem cancel_loop {x : gH} {m : Nat} (hx : isM x m) (D : Nat → Int32) : f_X8_cancel_b79 g_N (dP x m D) m 1 0 = some (1, dP x m (upd (upd (upd (upd (upd D 13 (-1)) 14 (-1)) 29 (-1)) 30 (-1)) 2 (-1))) := by
  have z10 : ((1 : Int32) = 0) = False := eq_false (by decide)
  have z1 : g_z 1 = some 1 := rfl
  have step : ∀ (c fu : Nat) (E : Nat → Int32), c < 2 → f_X8_cancel_b79 (fu + 1) (dP x m E) m 1 (nI c) = f_X8_cancel_b79 fu (dP x m (upd (upd E (10 + 16 * c + 3) (-1)) (10 + 16 * c + 4) (-1))) m 1 (nI (c + 1)) := by
    intro c fu E hc
    have hlt : nI c < 2 := by rw [show (2 : Int32) = nI 2 by decide]; exact nI_lt hc (by decide)
    simp only [f_X8_cancel_b79, hlt, if_true, z10, if_false, dI hx, cond_true, rest_d hx hc, Option.bind_some, ← nI_succ]
  have fin : ∀ (fu : Nat) (E : Nat → Int32), f_X8_cancel_b79 (fu + 1) (dP x m E) m 1 (nI 2) = some (1, dP x m (upd E 2 (-1))) := by
    intro fu E
    have hlt : ¬ nI 2 < 2 := by decide
    simp only [f_X8_cancel_b79, f_X8_cancel_b99, hlt, z10, if_false, dG hx, dS2, Option.bind_some, z1]
  have g9 : f_X8_cancel_b79 g_N (dP x m D) m 1 0 = f_X8_cancel_b79 (8191 + 1) (dP x m D) m 1 (nI 0) := by rw [nI_0]; rfl
  rw [g9, step 0 8191 D (by decide)]
  have g8 : ∀ E, f_X8_cancel_b79 8191 (dP x m E) m 1 (nI (0 + 1)) = f_X8_cancel_b79 (8190 + 1) (dP x m E) m 1 (nI 1) := fun E => rfl
  rw [g8, step 1 8190 _ (by decide)]
  have g7 : ∀ E, f_X8_cancel_b79 8190 (dP x m E) m 1 (nI (1 + 1)) = f_X8_cancel_b79 (8189 + 1) (dP x m E) m 1 (nI 2) := fun E => rfl
  rw [g7, fin]
theorem cancel_no {x : gH} {m : Nat} (hx : isM x m) (D : Nat → Int32) : f_X8_cancel_b79 g_N (dP x m D) m 0 0 = some (0, dP x m D) := by
  have z0 : g_z 0 = some 0 := rfl
  have hlt : (0 : Int32) < 2 := by decide
  have no1 : ∀ fu, f_X8_cancel_b79 (fu + 1) (dP x m D) m 0 0 = some (0, dP x m D) := fun fu => by
    simp only [f_X8_cancel_b79, f_X8_cancel_b99, hlt, if_true, z0, Option.bind_some]
  exact no1 8191
theorem op_cancel (hI : cInv a t h) (x1 : Int32) : lw_S (cInv a (t + 1)) (a + 614) (a + 628) (fun r => if r = 0 then 0 else 1) (f_L_cancel h a x1 (a + 628)) (fun h9 => f_X8_cancel h9 (a + 614) x1) := by
  obtain ⟨F, R, hf, hm, hq, hr, ef, ew, g7, gn, gw⟩ := cH_of hI
  have z10 : ((1 : Int32) = 0) = False := eq_false (by decide)
  obtain ⟨v1, v2, v3, ⟨l, l1, l2, l3, l4⟩, v5, v6⟩ := hr.now.inv
  have hM := hasMessage_wd (h := h) (w := a + 2) (R := F.now) x1
  rw [ew] at hM
  have nm : ∀ x, f_X8_noMessage (mP x (a + 614) (R.s_th 0)) (a + 614) x1 = some (if 0 ≤ x1 ∧ x1 < nI F.now.told then (0, mP x (a + 614) (R.s_th 0)) else (1, mP x (a + 614) ((R.s_th 0).s_th 1))) := fun x => noMessage_m (R := R.s_th 0) rfl (n := F.now.told) hr.now.n.2.1 v1 x1
  by_cases c : 0 ≤ x1 ∧ x1 < nI F.now.told
  · obtain ⟨i, hi, rfl⟩ := rngT (by omega) c
    have i8 : i < 8 := by omega
    have mN := msgNo h (a + 2) F.now i8
    have mG := w_ms_g h (a + 2) F.now i8
    have mC := w_ms_canBeCancelled h (a + 2) F.now i8
    rw [ew] at mN mG mC
    obtain ⟨p, p4, ep⟩ := (l4 i hi).2.2.2.2.2.2.1
    have e3 : ∀ x, f_X8_of (mP x (a + 614) (R.s_th 0)) (a + 614) (nI i) 3 = some (nI p) := fun x => of_d (f := fun h => f_X8_of h (a + 614) (nI i) 3) (by
      rw [msL3 (isM_m _ _ _) i8]
      exact congrArg some ((hr.now.ms i hi).2.2.2.1.trans ep))
    have le2 : (2 ≤ nI p) ↔ 2 ≤ p := by rw [show (2 : Int32) = nI 2 by decide]; exact nI_leI (by decide) (by omega)
    have pc : ((F.now.ms i).phase = 0 ∨ (F.now.ms i).phase = 1) ↔ p < 2 := by
      rw [ep]
      have : p = 0 ∨ p = 1 ∨ p = 2 ∨ p = 3 := by omega
      rcases this with rfl | rfl | rfl | rfl <;> decide
    by_cases cp : p < 2
    · have n2p : ¬ 2 ≤ p := by omega
      have kp := keep_h (a := a) hr h
      rw [ef] at kp
      have gF := gA h a F
      rw [ef] at gF
      obtain ⟨b1, b2, b3⟩ := hr.now.back hr.live hi (pc.mpr cp)
      have tb := takeBack_wd (h := fP h a F.keep) (w := a + 2) (R := F.keep.now) hr.now.ok hi
      rw [fE_now, fU_now] at tb
      have tb' : f_X6_takeBack (fP h a F.keep) (a + 2) (nI i) = some (bI (F.now.takeBack i).1, fP h a (F.keep.s_now (F.now.takeBack i).2)) := tb
      have tm : (F.now.takeBack i).2.time = F.now.time := by
        unfold RW.takeBack
        dsimp only
        split <;> rfl
      refine S_okx (F' := F.keep.s_now (F.now.takeBack i).2) hf hm hq _ (fun q _ => rfl) (v := bI (F.now.takeBack i).1) ?_ (fun x => ?_)
      · simp only [f_L_cancel, g7, cond_true, f_X7_cancel, c, and_self, gn, gw, hM, bI_0, decide_true, Bool.true_eq_false, if_false, mN, mG, mC, pc, cp, gF.2.1, gF.2.2.1, kp, (gA h a F.keep).1, (gA h a F.keep).2.2.2, tb', g_z_bI, Option.bind_some]
      · obtain ⟨rows', q1, q2⟩ := rem_m hr x (a + 614) 0
        have r0 : rows' 0 = R.rows 0 := q2.1 0 (by decide)
        generalize hR1 : ((R.s_th 0).s_rows rows').s_ud (nI (min (F.ct + 1) 8)) = R1 at q1
        have r1 : R1.rows 0 = R.rows 0 := by rw [← hR1]; exact r0
        have r1r : R1.rows = rows' := by rw [← hR1]; rfl
        have n2 : R1.rows 0 2 = oI F.now.way := by rw [r1]; exact hr.now.n.2.2.1
        have hx := isM_m x (a + 614) R1
        have d0 : upd (R1.rows 0) (112 + 102 * i + 3) 3 0 = R1.rows 0 0 := upd_ne (by omega)
        have done : ∀ D', Rel (F.now.takeBack i).2 D' → RelAll (t + 1) (F.keep.s_now (F.now.takeBack i).2) (R1.s_rows (updR R1.rows 0 D')) := by
          intro D' d2
          rw [r1r, ← hR1]
          exact chg_all (W' := (F.now.takeBack i).2) (c := 0) hr q2 d2 b2 (by rw [tm]; have := hr.time; omega)
        have pre : ∀ (s0 : Int32), f_X8_cancel_b57 (mP x (a + 614) R1) (a + 614) (nI i) s0 = f_X8_cancel_b79 g_N (dP (mP x (a + 614) R1) (a + 614) (upd (upd (R1.rows 0) (112 + 102 * i + 3) 3) (112 + 102 * i + 5) (R1.rows 0 0))) (a + 614) s0 0 := by
          intro s0
          have e : f_X8_cancel_b57 (dP (mP x (a + 614) R1) (a + 614) (R1.rows 0)) (a + 614) (nI i) s0 = f_X8_cancel_b79 g_N (dP (mP x (a + 614) R1) (a + 614) (upd (upd (R1.rows 0) (112 + 102 * i + 3) 3) (112 + 102 * i + 5) (R1.rows 0 0))) (a + 614) s0 0 := by
            simp only [f_X8_cancel_b57, dI hx, cond_true, msS3 hx i8, dG hx, dL0, d0, msS5 hx i8, Option.bind_some]
          rwa [mE_d] at e
        by_cases cw : F.now.way = some i
        · rw [if_pos cw, ← r1] at b1
          have ev : R1.rows 0 2 = nI i := by rw [n2, cw]; rfl
          have bt : (F.now.takeBack i).1 = true := by rw [b3]; exact decide_eq_true cw
          refine ⟨R1.s_rows (updR R1.rows 0 _), ?_, by rw [← hR1]; rfl, done _ b1⟩
          simp only [f_X8_cancel, f_X8_cancel_b29, mT_th, Option.bind_some, mI, cond_true, nm, c, and_self, if_true, e3, le2, n2p, if_false, fails_0 (R := R.s_th 0) rfl, q1, mG_data]
          rw [mLl 2 2, ev]
          simp only [Option.bind_some, if_true, pre, cancel_loop hx, bt, bI_t]
          rw [mU_d]
        · rw [if_neg cw, ← r1] at b1
          have ev : ¬ R1.rows 0 2 = nI i := by
            rw [n2]
            cases e : F.now.way with
            | none => exact fun z => nI_neN (i := i) (by omega) z.symm
            | some k =>
              intro z
              have hk := v5 k e
              have : k = i := (nI_eq (by omega) (by omega)).mp z
              subst this
              exact cw e
          have bf : (F.now.takeBack i).1 = false := by rw [b3]; exact decide_eq_false cw
          refine ⟨R1.s_rows (updR R1.rows 0 _), ?_, by rw [← hR1]; rfl, done _ b1⟩
          simp only [f_X8_cancel, f_X8_cancel_b29, mT_th, Option.bind_some, mI, cond_true, nm, c, and_self, if_true, e3, le2, n2p, if_false, fails_0 (R := R.s_th 0) rfl, q1, mG_data]
          rw [mLl 2 2]
          simp only [Option.bind_some, ev, if_false, pre, cancel_no hx, bf, bI_f]
          rw [mU_d]
    · have y2p : 2 ≤ p := by omega
      refine S_ex (R' := R.s_th 2) (c := 2) (r := 0) hf hm hq ?_ (by decide) (fun x => ?_) rfl (hr.later (by omega))
      · simp only [f_L_cancel, g7, cond_true, f_X7_cancel, c, and_self, gn, gw, hM, bI_0, decide_true, Bool.true_eq_false, if_false, mN, mG, mC, pc, cp, decide_false, if_true, Option.bind_some]
      · simp only [f_X8_cancel, f_X8_cancel_b29, mT_th, Option.bind_some, mI, cond_true, nm, c, and_self, if_true, e3, le2, y2p, fails_1 (R := R.s_th 0) rfl (show ¬ (2 : Int32) = 0 by decide), z10, if_false]
        rfl
  · refine S_ex (R' := R.s_th 1) (c := 1) (r := 0) hf hm hq ?_ (by decide) (fun x => ?_) rfl (hr.later (by omega))
    · simp only [f_L_cancel, g7, cond_true, f_X7_cancel, c, if_true, gn, gw, hM, bI_0, decide_false, Option.bind_some]
    · simp only [f_X8_cancel, f_X8_cancel_b29, mT_th, Option.bind_some, mI, cond_true, nm, c, if_false, z10]
      rfl
theorem op_errorOffset (hI : cInv a t h) : lw_S0 (cInv a (t + 1)) a (a + 614) h ((f_X7_errorOffset h a).map (fun r => (r, h))) (fun h9 => f_X8_errorOffset h9 (a + 614)) := by
  obtain ⟨F, R, hf, hm, hq, hr, ef, ew, g7, gn, gw⟩ := cH_of hI
  refine S_0 (F' := F) hf hm hq (v := F.err) ?_ (fun x => ⟨R.s_th 0, ?_, hr.later (by omega)⟩)
  · have q := fG_err h a F
    rw [ef] at q
    simp only [f_X7_errorOffset, q, Option.bind_some, Option.map_some, ef]
  · simp only [f_X8_errorOffset, mT_th, Option.bind_some, mG_eo, RMo_s, hr.eo]
theorem undo_m (x : gH) (m : Nat) (R : RMo) {u : Nat} (hu : R.ud = nI u) (h0 : 0 < u) (h8 : u ≤ 8) : f_X8_undo (mP x m R) m = some (nI (u - 1), mP x m (((R.s_th 0).s_ud (nI (u - 1))).s_rows (updR R.rows 0 (cpyr 928 (R.rows (4 + (u - 1))) (R.rows 0))))) := by
  have cp := mcopy x m ((R.s_th 0).s_ud (nI (u - 1))) (i := 4 + (u - 1)) (j := 0) (by omega) (by omega) (by decide) (by decide) (by omega)
  rw [show m + 2 + (4 + (u - 1)) = m + 6 + (u - 1) by omega, Nat.add_zero] at cp
  have ep : nI u - 1 = nI (u - 1) := by rw [show (1 : Int32) = nI 1 by decide, nI_sub (by omega)]
  have nu : ¬ nI u = 0 := nI_ne0 h0 (by omega)
  have eu : (R.s_th 0).ud = nI u := hu
  simp only [f_X8_undo, mT_th, Option.bind_some, mG_ud, eu, nu, if_false, ep, mT_ud, mG_hist, mG_data]
  rw [show ((R.s_th 0).s_ud (nI (u - 1))).ud = nI (u - 1) from rfl, mQ _ _ _ (show u - 1 < 8 by omega)]
  simp only [Option.bind_some]
  rw [cp]
  simp only [Option.bind_some, mG_ud]
  rfl
theorem op_undo (hI : cInv a t h) : lw_S0 (cInv a (t + 1)) a (a + 614) h (f_X7_undo h a) (fun h9 => f_X8_undo h9 (a + 614)) := by
  obtain ⟨F, R, hf, hm, hq, hr, ef, ew, g7, gn, gw⟩ := cH_of hI
  have pl := hr.pl
  have ct := hr.ct
  have gF := gA h a F
  rw [ef] at gF
  by_cases c0 : F.ct = 0
  · have rs := restore_f h a F pl ct
    refine S_0 (F' := F) hf hm hq (v := -1) ?_ (fun x => ⟨R.s_th 0, ?_, hr.later (by omega)⟩)
    · have hk : f_X1_restore h (a + 124) (a + 2) = some (0, h) := by
        have hp : (F.pl + 7) % 8 < 8 := Nat.mod_lt _ (by decide)
        have e1 : g_rem (nI F.pl + 8 - 1) 8 = nI ((F.pl + 7) % 8) := by
          rw [show nI F.pl + 8 - 1 = nI (F.pl + 7) by rw [show (8 : Int32) = nI 8 by decide, nI_add, show (1 : Int32) = nI 1 by decide, nI_sub (by omega)]; congr 1, rem8 _ (by omega)]
        have k1 := fG_pl h a F
        have k2 := fP_gH h a F
        have k3 := keptAt_f h a F hp
        have k4 := fG_ct h a F
        rw [ef] at k1 k2 k3 k4
        rw [c0] at k4
        simp only [f_X1_restore, k1, k2, cond_true, e1, k3, k4, Option.bind_some, nI_0, if_true]
      simp only [f_X7_undo, gF.2.1, gn, gF.2.2.1, cond_true, hk, Option.bind_some, if_true, ef]
    · have u0 : (R.s_th 0).ud = 0 := by rw [show (R.s_th 0).ud = R.ud from rfl, hr.ud, c0, nI_0]
      simp only [f_X8_undo, mT_th, Option.bind_some, mG_ud, u0, if_true]
  · obtain ⟨k1, k2, k3⟩ := hr.hist 0 (by omega)
    rw [Nat.sub_zero, Nat.sub_zero] at k1
    rw [Nat.sub_zero] at k2 k3
    have rs := restore_f h a F pl ct k1.inv.1
    rw [ef, if_neg c0] at rs
    have z10 : ((1 : Int32) = 0) = False := eq_false (by decide)
    obtain ⟨q1, q2⟩ := k1.copy F.now
    have ep : nI F.ct - 1 = nI (F.ct - 1) := by rw [show (1 : Int32) = nI 1 by decide, nI_sub (by omega)]
    refine S_0 (F' := F.back) hf hm hq (v := nI (F.ct - 1)) ?_ (fun x => ?_)
    · simp only [f_X7_undo, gF.2.1, gn, gF.2.2.1, cond_true, rs, Option.bind_some, z10, if_false, (gA h a F.back).2.1, fG_ct]
      rfl
    · refine ⟨((R.s_th 0).s_ud (nI (F.ct - 1))).s_rows (updR R.rows 0 (cpyr 928 (R.rows (4 + (F.ct - 1))) (R.rows 0))), undo_m x (a + 614) R hr.ud (by omega) ct, ?_⟩
      refine ⟨hr.n, hr.bl, hr.buf, hr.eo, ?_, q2 k2, by have := k3; show (F.K ((F.pl + 7) % 8)).time ≤ _; omega, Nat.mod_lt _ (by decide), by show F.ct - 1 ≤ 8; omega, rfl, fun i hi => ?_⟩
      · show Rel ((F.K ((F.pl + 7) % 8)).copy F.now) (updR R.rows 0 (cpyr 928 (R.rows (4 + (F.ct - 1))) (R.rows 0)) 0)
        rw [updR_at]
        refine q1.ext (fun j hj => ?_)
        rw [cpyr_in hj, show 4 + (F.ct - 1) = 4 + F.ct - 1 by omega]
      · have hi2 : i < F.ct - 1 := hi
        obtain ⟨j1, j2, j3⟩ := hr.hist (i + 1) (by omega)
        show Rel (F.K (((F.pl + 7) % 8 + 7 - i) % 8)) (updR R.rows 0 (cpyr 928 (R.rows (4 + (F.ct - 1))) (R.rows 0)) (4 + (F.ct - 1) - 1 - i)) ∧ (F.K (((F.pl + 7) % 8 + 7 - i) % 8)).live ∧ (F.K (((F.pl + 7) % 8 + 7 - i) % 8)).time ≤ 100 * (t + 1)
        rw [updR_ne (by omega), show ((F.pl + 7) % 8 + 7 - i) % 8 = (F.pl + 7 - (i + 1)) % 8 by omega, show 4 + (F.ct - 1) - 1 - i = 4 + F.ct - 1 - (i + 1) by omega]
        exact ⟨j1, j2, by omega⟩
end CHG3
