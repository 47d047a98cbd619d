/-! power, relieve, cancel, pass, undo -/
section CHG2
variable {a t : Nat} {h : gH}
theorem chanG (h : gH) (w : Nat) (W : RW) (b : Bool) : g_gI (wdP h w W) (cp w b) 0 0 = some (W.ch b).power := by
  cases b
  · exact w_c0_Gpower h w W
  · exact w_c1_Gpower h w W
theorem chanT (h : gH) (w : Nat) (W : RW) (b : Bool) (v : Int32) : g_put (wdP h w W) (cp w b) 0 0 (.int v) = some (wdP h w (W.setCh b ((W.ch b).s_power v))) := by
  cases b
  · exact w_c0_Tpower h w W v
  · exact w_c1_Tpower h w W v
theorem setCh_live {W : RW} {b : Bool} {C : RCh} (h : W.live) : (W.setCh b C).live := by
  cases b <;> exact h
theorem setCh_time (W : RW) (b : Bool) (C : RCh) : (W.setCh b C).time = W.time := by cases b <;> rfl
theorem gA (h : gH) (a : Nat) (G : RFc) : g_gA (fP h a G) a 7 3 = some (a + 2) ∧ g_gA (fP h a G) a 7 5 = some (a + 124) ∧ g_is (fP h a G) (a + 124) 1 = true ∧ g_is (fP h a G) (a + 2) 6 = true := ⟨fG_now h a G, fG_hi h a G, fP_gH h a G, by
  have q := wdP_g (fP h a G) (a + 2) G.now
  rwa [fE_now] at q⟩
theorem op_power (hI : cInv a t h) (x1 x2 : Int32) : lw_S (cInv a (t + 1)) (a + 614) (a + 628) (fun r => r.toInt64) (f_L_power h a x1 x2 (a + 628)) (fun h9 => f_X8_power h9 (a + 614) x1 x2) := by
  obtain ⟨F, R, hf, hm, hq, hr, ef, ew, g7, gn, gw⟩ := cH_of hI
  have z10 : ((1 : Int32) = 0) = False := eq_false (by decide)
  by_cases c : 0 ≤ x1 ∧ x1 ≤ 1
  · by_cases c2 : 0 ≤ x2 ∧ x2 ≤ 9
    · obtain ⟨b, rfl⟩ := nI_cn x1 c
      have hb := cn_lt b
      have kp := keep_h (a := a) hr h
      rw [ef] at kp
      have gF := gA h a F
      rw [ef] at gF
      have cN : f_X6_channelNumbered (fP h a F.keep) (a + 2) (nI (cn b)) = some (cp (a + 2) b) := by
        have q := chanN (fP h a F.keep) (a + 2) F.keep.now b
        rwa [fE_now] at q
      have cG : g_gI (fP h a F.keep) (cp (a + 2) b) 0 0 = some (F.now.ch b).power := by
        have q := chanG (fP h a F.keep) (a + 2) F.keep.now b
        rw [fE_now] at q
        exact q
      have cT : g_put (fP h a F.keep) (cp (a + 2) b) 0 0 (.int x2) = some (fP h a (F.keep.s_now (F.now.setCh b ((F.now.ch b).s_power x2)))) := by
        have q := chanT (fP h a F.keep) (a + 2) F.keep.now b x2
        rw [fE_now, fU_now] at q
        exact q
      refine S_okx (F' := F.keep.s_now (F.now.setCh b ((F.now.ch b).s_power x2))) hf hm hq _ (fun q _ => rfl) (v := (F.now.ch b).power) ?_ (fun x => ?_)
      · simp only [f_L_power, g7, cond_true, f_X7_power, f7, c, c2, and_self, not_true_eq_false, if_false, gn, gF.2.1, gF.2.2.1, kp, (gA h a F.keep).1, (gA h a F.keep).2.2.2, cN, cG, cT, Option.bind_some]
      · obtain ⟨rows', q1, q2⟩ := rem_m hr x (a + 614) 0
        have r0 : rows' 0 = R.rows 0 := q2.1 0 (by decide)
        have rc := hr.now.ch b
        refine ⟨((((R.s_th 0).s_rows rows').s_ud (nI (min (F.ct + 1) 8))).s_rows (updR rows' 0 (upd (R.rows 0) (10 + 16 * cn b + 0) x2))), ?_, rfl, chg_all (c := 0) hr q2 ?_ (setCh_live hr.live) (by have := hr.time; rw [setCh_time]; omega)⟩
        · have e1 : f_X8_ofChannel (mP x (a + 614) (((R.s_th 0).s_rows rows').s_ud (nI (min (F.ct + 1) 8)))) (a + 614) (nI (cn b)) 0 = some (F.now.ch b).power := of_d (f := fun h => f_X8_ofChannel h (a + 614) (nI (cn b)) 0) (by
            rw [chL0 (isM_m _ _ _) hb]
            show some (rows' 0 _) = _
            rw [r0]
            exact congrArg some rc.1)
          have e2 : f_X8_setChannel (mP x (a + 614) (((R.s_th 0).s_rows rows').s_ud (nI (min (F.ct + 1) 8)))) (a + 614) (nI (cn b)) 0 x2 = some (mP x (a + 614) ((((R.s_th 0).s_rows rows').s_ud (nI (min (F.ct + 1) 8))).s_rows (updR rows' 0 (upd (R.rows 0) (10 + 16 * cn b + 0) x2)))) := of_dU (f := fun h => f_X8_setChannel h (a + 614) (nI (cn b)) 0 x2) (by
            rw [chS0 (isM_m _ _ _) hb]
            show some (dP _ _ (upd (rows' 0) _ _)) = _
            rw [r0])
          simp only [f_X8_power, f_X8_power_b29, mT_th, Option.bind_some, mI, cond_true, noChannel_m (R := R.s_th 0) rfl, c, and_self, if_true, f8, c2, not_true_eq_false, if_false, fails_0 (R := R.s_th 0) rfl, q1, e1, e2]
        · exact hr.now.chan b ⟨rfl, rfl, rfl, rfl, rfl, rfl, rfl⟩ (upd_at _ _ _) (by rw [upd_ne (by omega)]; exact rc.2.1) (by rw [upd_ne (by omega)]; exact rc.2.2.1) (fun j j1 j2 => upd_ne (by omega))
    · refine S_ex (R' := R.s_th 2) (c := 2) (r := 0) hf hm hq ?_ (by decide) (fun x => ?_) rfl (hr.later (by omega))
      · simp only [f_L_power, g7, cond_true, f_X7_power, f7, c, c2, and_self, not_true_eq_false, not_false_eq_true, if_true, if_false]
      · simp only [f_X8_power, f_X8_power_b29, mT_th, Option.bind_some, mI, cond_true, noChannel_m (R := R.s_th 0) rfl, c, and_self, if_true, f8, c2, not_false_eq_true, fails_1 (R := R.s_th 0) rfl (show ¬ (2 : Int32) = 0 by decide), z10, if_false]
        rfl
  · refine S_ex (R' := R.s_th 1) (c := 1) (r := 0) hf hm hq ?_ (by decide) (fun x => ?_) rfl (hr.later (by omega))
    · simp only [f_L_power, g7, cond_true, f_X7_power, f7, c, not_false_eq_true, if_true]
    · simp only [f_X8_power, f_X8_power_b29, mT_th, Option.bind_some, mI, cond_true, noChannel_m (R := R.s_th 0) rfl, c, if_false, z10]
      rfl
theorem op_pass (hI : cInv a t h) (x1 : Int32) : lw_S (cInv a (t + 1)) (a + 614) (a + 628) (fun r => r.toInt64) (f_L_pass h a x1 (a + 628)) (fun h9 => f_X8_pass h9 (a + 614) x1) := by
  obtain ⟨F, R, hf, hm, hq, hr, ef, ew, g7, gn, gw⟩ := cH_of hI
  have z10 : ((1 : Int32) = 0) = False := eq_false (by decide)
  by_cases c : 1 ≤ x1 ∧ x1 ≤ 100
  · obtain ⟨n, hn, rfl⟩ := rng (n := 100) (v := x1) (by decide) ⟨Int32.le_trans (by decide) c.1, c.2⟩
    have kp := keep_h (a := a) hr h
    rw [ef] at kp
    have gF := gA h a F
    rw [ef] at gF
    have pf : ∀ (x : gH) (m : Nat), isM x m → ∀ D, Rel F.now D → _ := fun x m hx D hD => pass_f (h := h) (a := a) hx (n := n) hn n 0 g_N 0 F.keep D (by omega) (by unfold g_N; omega) (by omega) hD hr.live
    have p0 := (pf (mP h (a + 614) R) (a + 614) (isM_m _ _ _) (R.rows 0) hr.now).1
    rw [nI_0, Nat.zero_add] at p0
    refine S_okx (F' := F.keep.s_now (F.now.ticks n).2) hf hm hq _ (fun q _ => rfl) (v := nI (F.now.ticks n).1) ?_ (fun x => ?_)
    · have p0' : f_X7_pass_b35 g_N (fP h a F.keep) a (nI n) 0 0 = some (.inr (nI (F.now.ticks n).1), fP h a (F.keep.s_now (F.now.ticks n).2)) := p0
      simp only [f_L_pass, g7, cond_true, f_X7_pass, f7, c, and_self, not_true_eq_false, if_false, gn, gF.2.1, gF.2.2.1, kp, p0', Option.bind_some]
    · obtain ⟨rows', q1, q2⟩ := rem_m hr x (a + 614) 0
      have r0 : rows' 0 = R.rows 0 := q2.1 0 (by decide)
      generalize hR1 : ((R.s_th 0).s_rows rows').s_ud (nI (min (F.ct + 1) 8)) = R1 at q1
      have r1 : R1.rows 0 = R.rows 0 := by rw [← hR1]; exact r0
      have r1r : R1.rows = rows' := by rw [← hR1]; rfl
      have rel1 : Rel F.now (R1.rows 0) := by rw [r1]; exact hr.now
      obtain ⟨-, D', d1, d2, d3, d4⟩ := pf (mP x (a + 614) R1) (a + 614) (isM_m _ _ _) (R1.rows 0) rel1
      have e1 : f_X8_inState (mP x (a + 614) R1) (a + 614) 2 = some (F.now.count 2) := of_d (f := fun h => f_X8_inState h (a + 614) 2) (inState_d (isM_m _ _ _) rel1 2)
      have e2 : f_X8_pass_b42 g_N (mP x (a + 614) R1) (a + 614) (nI n) (F.now.count 2) 0 = some (nI (F.now.ticks n).1, mP x (a + 614) (R1.s_rows (updR R1.rows 0 D'))) := of_dV (f := fun h => f_X8_pass_b42 g_N h (a + 614) (nI n) (F.now.count 2) 0) (by
        have q := d1 (F.now.count 2)
        rw [nI_0] at q
        have e3 : F.now.count 2 + nI (F.now.ticks n).1 - F.now.count 2 = nI (F.now.ticks n).1 := by
          rw [Int32.add_comm]; exact Int32.add_sub_cancel _ _
        have q' : f_X8_pass_b42 g_N (dP (mP x (a + 614) R1) (a + 614) (R1.rows 0)) (a + 614) (nI n) (F.now.count 2) 0 = some (F.now.count 2 + nI (F.now.ticks n).1 - F.now.count 2, dP (mP x (a + 614) R1) (a + 614) D') := q
        rw [e3] at q'
        exact q')
      refine ⟨R1.s_rows (updR R1.rows 0 D'), ?_, by rw [← hR1]; rfl, ?_⟩
      · simp only [f_X8_pass, f_X8_pass_b21, mT_th, Option.bind_some, mI, cond_true, f8, c, and_self, not_true_eq_false, if_false, fails_0 (R := R.s_th 0) rfl, if_true, q1, e1, e2]
      · rw [r1r, ← hR1]
        exact chg_all (W' := (F.now.ticks n).2) (c := 0) hr q2 d2 d3 (by have := hr.time; have d4' : (F.now.ticks n).2.time = F.now.time + n := d4; omega)
  · refine S_ex (R' := R.s_th 1) (c := 1) (r := 0) hf hm hq ?_ (by decide) (fun x => ?_) rfl (hr.later (by omega))
    · simp only [f_L_pass, g7, cond_true, f_X7_pass, f7, c, not_false_eq_true, if_true]
    · simp only [f_X8_pass, f_X8_pass_b21, mT_th, Option.bind_some, f8, c, not_false_eq_true, if_true, mI, cond_true, fails_1 (R := R.s_th 0) rfl (show ¬ (1 : Int32) = 0 by decide), z10, if_false]
      rfl
/-! keepers -/
theorem kpN (h : gH) (w : Nat) (W : RW) (s : Int32) : f_X6_keepersOf (wdP h w W) w s = some (kpp w s) := by
  unfold f_X6_keepersOf kpp
  by_cases c : s = 0
  · rw [if_pos c, if_pos c, wdG_k0]; rfl
  · rw [if_neg c, if_neg c, wdG_k1]; rfl
theorem kpF (h : gH) (w : Nat) (W : RW) (hk0 : W.k0.told ≤ 8) (hk1 : W.k1.told ≤ 8) (s t k : Int32) : g_is (wdP h w W) (kpp w s) 2 = true ∧ f_X2_isFull (wdP h w W) (kpp w s) = some (bI (decide (8 ≤ (W.kp s).told))) ∧ f_X2_hasOneAt (wdP h w W) (kpp w s) t = some (bI ((W.kp s).place t).isSome) ∧ f_X2_keyAt (wdP h w W) (kpp w s) t = some ((W.kp s).keyAt t) ∧ f_X2_come (wdP h w W) (kpp w s) t k = some (wdP h w (W.setKp s ((W.kp s).come t k))) := by
  unfold kpp RW.kp RW.setKp
  by_cases c : s = 0
  · simp only [c, if_true]
    exact ⟨w_k0_g h w W, w_k0_isFull h w W hk0, w_k0_hasOneAt h w W hk0 t, w_k0_keyAt h w W hk0 t, w_k0_come h w W hk0 t k⟩
  · simp only [c, if_false]
    exact ⟨w_k1_g h w W, w_k1_isFull h w W hk1, w_k1_hasOneAt h w W hk1 t, w_k1_keyAt h w W hk1 t, w_k1_come h w W hk1 t k⟩
theorem setKp_side (W : RW) (s : Int32) (K : RKp) : (W.setKp s K).time = W.time ∧ (W.setKp s K).told = W.told ∧ (W.setKp s K).way = W.way ∧ (W.setKp s K).fsize = W.fsize ∧ (W.setKp s K).limit = W.limit ∧ (W.setKp s K).sent = W.sent ∧ (W.setKp s K).lost = W.lost ∧ (W.setKp s K).garbled = W.garbled ∧ (W.setKp s K).given = W.given ∧ (W.setKp s K).c0 = W.c0 ∧ (W.setKp s K).c1 = W.c1 ∧ (W.setKp s K).ms = W.ms ∧ (W.setKp s K).mi = W.mi := by
  unfold RW.setKp
  split <;> exact ⟨rfl, rfl, rfl, rfl, rfl, rfl, rfl, rfl, rfl, rfl, rfl, rfl, rfl⟩
/-- a keeper is told: the relation then -/
theorem Rel.kept {W : RW} {D D' : Nat → Int32} (h : Rel W D) {s : Nat} (hs : s < 2) {K : RKp} (hK : relKp K (42 + 17 * s) D') (e : ∀ j, (j < 42 + 17 * s ∨ 59 + 17 * s ≤ j) → D' j = D j) : Rel (W.setKp (nI s) K) D' := by
  obtain ⟨t1, t2, t3, t4, t5, t6, t7, t8, t9, t10, t11, t12, t13⟩ := setKp_side W (nI s) K
  have : s = 0 ∨ s = 1 := by omega
  refine h.side (fun j j1 j2 j3 => e j (by omega)) ⟨t1, t2, t3, t4, t5, t6, t7, t8, t9, t10, t11, t12⟩ ?_ ?_ (by rw [t13]; exact h.mi.congr (e 7 (by omega)) (fun j j1 j2 => e j (by omega)))
  · rcases this with rfl | rfl
    · exact hK
    · exact h.k0.congr (fun j j1 j2 => e j (by omega))
  · rcases this with rfl | rfl
    · exact h.k1.congr (fun j j1 j2 => e j (by omega))
    · exact hK
theorem keeperAt_m (x : gH) (m : Nat) (R : RMo) {K : RKp} {s : Nat} (hs : s < 2) (h : relKp K (42 + 17 * s) (R.rows 0)) (t : Int32) : f_X8_keeperAt (mP x m R) (m + 2) (nI s) t = some (oI (K.place t)) := by
  have q := keeperAt_r (x := mP x m R) (p := m + 2) (D := R.rows 0) hs h t
  have e9 : rP (mP x m R) (m + 2) (R.rows 0) = mP x m R := mE_d x m R
  rwa [e9] at q
theorem idx2 (a i : Nat) : nI a + 1 + 2 * nI i + 1 = nI (a + (2 + 2 * i)) := by
  rw [show (1 : Int32) = nI 1 by decide, show (2 : Int32) = nI 2 by decide, nI_mul, nI_add, nI_add, nI_add]
  congr 1
  omega
theorem op_relieve (ht : t < 512) (hI : cInv a t h) (x1 x2 : Int32) : lw_S (cInv a (t + 1)) (a + 614) (a + 628) (fun r => r.toInt64) (f_L_relieve h a x1 x2 (a + 628)) (fun h9 => f_X8_relieve h9 (a + 614) x1 x2) := by
  obtain ⟨F, R, hf, hm, hq, hr, ef, ew, g7, gn, gw⟩ := cH_of hI
  have z10 : ((1 : Int32) = 0) = False := eq_false (by decide)
  by_cases c : 0 ≤ x1 ∧ x1 ≤ 1
  · by_cases c2 : 0 ≤ x2 ∧ x2 ≤ 25
    · obtain ⟨s, hs1, rfl⟩ := rng (n := 1) (by decide) c
      have hs : s < 2 := by omega
      obtain ⟨q, hq25, rfl⟩ := rng (n := 25) (by decide) c2
      have ok := hr.now.ok
      have tb := hr.time
      have t31 : F.now.time < 2 ^ 31 := by omega
      have kN := kpN h (a + 2) F.now (nI s)
      obtain ⟨k1, k2, k3, k4, -⟩ := kpF h (a + 2) F.now ok.k0 ok.k1 (nI s) (nI F.now.time) (nI q)
      have tm := wdG_time h (a + 2) F.now
      rw [ew] at kN k1 k2 k3 k4 tm
      have rk := hr.now.kp hs
      have n0 : (R.s_th 0).rows 0 0 = nI F.now.time := hr.now.n.time
      have kA : ∀ x, f_X8_keeperAt (mP x (a + 614) (R.s_th 0)) (a + 614 + 2) (nI s) (nI F.now.time) = some (oI ((F.now.kp (nI s)).place (nI F.now.time))) := fun x => keeperAt_m x (a + 614) (R.s_th 0) hs rk (nI F.now.time)
      have e0 : nI (42 + 17 * s) + 0 = nI (42 + 17 * s) := by rw [show (0 : Int32) = nI 0 from nI_0.symm, nI_add]; rfl
      have lt9 : (nI F.now.time ≤ 9999) ↔ F.now.time ≤ 9999 := by rw [show (9999 : Int32) = nI 9999 by decide]; exact nI_leI t31 (by decide)
      have gt9 : (9999 < nI F.now.time) ↔ 9999 < F.now.time := by rw [show (9999 : Int32) = nI 9999 by decide]; exact nI_ltI (by decide) t31
      have told8 : ∀ x, g_ald (mP x (a + 614) (R.s_th 0)) (a + 614 + 2) (nI (42 + 17 * s)) = some (nI (F.now.kp (nI s)).told) := fun x => by
        rw [mL rfl (by omega)]
        exact congrArg some rk.2.1
      have is8 : (nI (F.now.kp (nI s)).told = 8) ↔ (F.now.kp (nI s)).told = 8 := by rw [show (8 : Int32) = nI 8 by decide]; exact nI_eq (by have := rk.1; omega) (by decide)
      have k8 := rk.1
      by_cases bad : 9999 < F.now.time ∨ ((F.now.kp (nI s)).told = 8 ∧ (F.now.kp (nI s)).place (nI F.now.time) = none)
      · refine S_ex (R' := R.s_th 3) (c := 3) (r := 0) hf hm hq ?_ (by decide) (fun x => ?_) rfl (hr.later (by omega))
        · by_cases b1 : 9999 < F.now.time
          · have nb : ¬ F.now.time ≤ 9999 := by omega
            simp only [f_L_relieve, g7, cond_true, f_X7_relieve, f_X7_relieve_b82, f7, c, c2, and_self, not_true_eq_false, if_false, gn, gw, kN, tm, lt9, nb, Option.bind_some]
          · obtain ⟨b2, b3⟩ := bad.resolve_left b1
            have nb : F.now.time ≤ 9999 := by omega
            rw [b3] at k3
            simp only [f_L_relieve, g7, cond_true, f_X7_relieve, f_X7_relieve_b82, f7, c, c2, and_self, not_true_eq_false, if_false, gn, gw, kN, tm, lt9, nb, if_true, k1, k2, k3, b2, Nat.le_refl, decide_true, bI_t, z10, Option.isSome_none, bI_f, Option.bind_some]
        · have go : ∀ (s0 : Int32), f_X8_relieve_b91 (mP x (a + 614) (R.s_th 0)) (a + 614) (nI s) (nI q) (nI (42 + 17 * s)) (nI F.now.time) s0 (a + 614) = some (0, mP x (a + 614) ((R.s_th 0).s_th 3)) := fun s0 => by
            simp only [f_X8_relieve_b91, f_X8_relieve_b96, mI, cond_true, fails_1 (R := R.s_th 0) rfl (show ¬ (3 : Int32) = 0 by decide), Option.bind_some, z10, if_false]
          have fin : f_X8_relieve_b29 (mP x (a + 614) (R.s_th 0)) (a + 614) (nI s) (nI q) 0 (a + 614) = some (0, mP x (a + 614) ((R.s_th 0).s_th 3)) := by
            simp only [f_X8_relieve_b29, mI, cond_true, fails_0 (R := R.s_th 0) rfl, Option.bind_some, if_true, mG_data, mLl (R := R.s_th 0) 0 0, n0, kA, stAt, e0, told8, is8]
            by_cases b1 : 9999 < F.now.time
            · simp only [f_X8_relieve_b83, gt9, b1, if_true, go]
              split
              · split <;> rfl
              · rfl
            · obtain ⟨b2, b3⟩ := bad.resolve_left b1
              simp only [b3, oI_none, b2, if_true, go]
          simp only [f_X8_relieve, mT_th, Option.bind_some, mI, cond_true, noStation_m (R := R.s_th 0) rfl, c, and_self, if_true, f8, c2, not_true_eq_false, if_false, fin]
          rfl
      · have nb1 : ¬ 9999 < F.now.time := fun z => bad (Or.inl z)
        have nb2 : ¬ ((F.now.kp (nI s)).told = 8 ∧ (F.now.kp (nI s)).place (nI F.now.time) = none) := fun z => bad (Or.inr z)
        have nb : F.now.time ≤ 9999 := by omega
        have kp := keep_h (a := a) hr h
        rw [ef] at kp
        have gF := gA h a F
        rw [ef] at gF
        obtain ⟨j1, -, -, j4, j5⟩ := kpF (fP h a F.keep) (a + 2) F.keep.now ok.k0 ok.k1 (nI s) (nI F.now.time) (nI q)
        have tm2 := wdG_time (fP h a F.keep) (a + 2) F.keep.now
        rw [fE_now] at j1 j4 j5 tm2
        rw [fU_now] at j5
        have b92 : f_X7_relieve_b92 h a (nI q) (kpp (a + 2) (nI s)) = some (.inr ((F.now.kp (nI s)).keyAt (nI F.now.time)), fP h a (F.keep.s_now (F.now.setKp (nI s) ((F.now.kp (nI s)).come (nI F.now.time) (nI q))))) := by
          have j4' : f_X2_keyAt (fP h a F.keep) (kpp (a + 2) (nI s)) (nI F.now.time) = some ((F.now.kp (nI s)).keyAt (nI F.now.time)) := j4
          have tm2' : g_gI (fP h a F.keep) (a + 2) 6 0 = some (nI F.now.time) := tm2
          have j5' : f_X2_come (fP h a F.keep) (kpp (a + 2) (nI s)) (nI F.now.time) (nI q) = some (fP h a (F.keep.s_now (F.now.setKp (nI s) ((F.now.kp (nI s)).come (nI F.now.time) (nI q))))) := j5
          simp only [f_X7_relieve_b92, gF.2.1, gn, gF.2.2.1, kp, cond_true, (gA h a F.keep).1, tm2', j1, j4', j5', Option.bind_some]
        obtain ⟨t1, t2, t3, t4, t5, t6, t7, t8, t9, t10, t11, t12, t13⟩ := setKp_side F.now (nI s) ((F.now.kp (nI s)).come (nI F.now.time) (nI q))
        refine S_okx (F' := F.keep.s_now (F.now.setKp (nI s) ((F.now.kp (nI s)).come (nI F.now.time) (nI q)))) hf hm hq _ (fun q _ => rfl) (v := (F.now.kp (nI s)).keyAt (nI F.now.time)) ?_ (fun x => ?_)
        · by_cases b2 : 8 ≤ (F.now.kp (nI s)).told
          · have hp : ((F.now.kp (nI s)).place (nI F.now.time)).isSome = true := by
              cases e : (F.now.kp (nI s)).place (nI F.now.time) with
              | none => exact absurd ⟨by omega, e⟩ nb2
              | some _ => rfl
            rw [hp] at k3
            simp only [f_L_relieve, g7, cond_true, f_X7_relieve, f7, c, c2, and_self, not_true_eq_false, if_false, gn, gw, kN, tm, lt9, nb, if_true, k1, k2, k3, b2, decide_true, bI_t, z10, b92, Option.bind_some]
          · simp only [f_L_relieve, g7, cond_true, f_X7_relieve, f7, c, c2, and_self, not_true_eq_false, if_false, gn, gw, kN, tm, lt9, nb, if_true, k1, k2, b2, decide_false, bI_f, b92, Option.bind_some]
        · obtain ⟨rows', q1, q2⟩ := rem_m hr x (a + 614) 0
          have r0 : rows' 0 = R.rows 0 := q2.1 0 (by decide)
          generalize hR1 : ((R.s_th 0).s_rows rows').s_ud (nI (min (F.ct + 1) 8)) = R1 at q1
          have r1 : R1.rows 0 = R.rows 0 := by rw [← hR1]; exact r0
          have r1r : R1.rows = rows' := by rw [← hR1]; rfl
          have rk1 : relKp (F.now.kp (nI s)) (42 + 17 * s) (R1.rows 0) := by rw [r1]; exact rk
          have lq : lOf (nI q) := ⟨q, by omega, rfl⟩
          have kO : f_X8_keyOf (mP x (a + 614) R1) (a + 614) (nI s) (nI F.now.time) = some ((F.now.kp (nI s)).keyAt (nI F.now.time)) := of_d (f := fun h => f_X8_keyOf h (a + 614) (nI s) (nI F.now.time)) (keyOf_d (isM_m _ _ _) hs rk1 _)
          have pre : ∀ (o : Int32) (W : gH), f_X8_relieve_b96 (mP x (a + 614) (R.s_th 0)) (a + 614) (nI s) (nI q) (nI (42 + 17 * s)) (nI F.now.time) (oI ((F.now.kp (nI s)).place (nI F.now.time))) 0 (a + 614) = some (o, W) → f_X8_relieve (mP x (a + 614) R) (a + 614) (nI s) (nI q) = some (o, W) := by
            intro o W hW
            have fin : f_X8_relieve_b29 (mP x (a + 614) (R.s_th 0)) (a + 614) (nI s) (nI q) 0 (a + 614) = some (o, W) := by
              simp only [f_X8_relieve_b29, f_X8_relieve_b83, mI, cond_true, fails_0 (R := R.s_th 0) rfl, Option.bind_some, if_true, mG_data, mLl (R := R.s_th 0) 0 0, n0, kA, stAt, e0, told8, is8, gt9, nb1, if_false]
              by_cases e : oI ((F.now.kp (nI s)).place (nI F.now.time)) = -1
              · have en : (F.now.kp (nI s)).place (nI F.now.time) = none := (oI_eqN (fun i ei => by have := (fnd_some (show fnd (fun i => (F.now.kp (nI s)).ticks i = nI F.now.time) (F.now.kp (nI s)).told 0 = some i from ei)); omega)).mp e
                have n8 : ¬ (F.now.kp (nI s)).told = 8 := fun z => nb2 ⟨z, en⟩
                rw [if_pos e, if_neg n8]
                exact hW
              · rw [if_neg e]
                exact hW
            simp only [f_X8_relieve, mT_th, Option.bind_some, mI, cond_true, noStation_m (R := R.s_th 0) rfl, c, and_self, if_true, f8, c2, not_true_eq_false, if_false, fin]
          have done : ∀ D', relKp ((F.now.kp (nI s)).come (nI F.now.time) (nI q)) (42 + 17 * s) D' → (∀ j, (j < 42 + 17 * s ∨ 59 + 17 * s ≤ j) → D' j = R.rows 0 j) → RelAll (t + 1) (F.keep.s_now (F.now.setKp (nI s) ((F.now.kp (nI s)).come (nI F.now.time) (nI q)))) (R1.s_rows (updR R1.rows 0 D')) := by
            intro D' d2 d3
            rw [r1r, ← hR1]
            exact chg_all (W' := F.now.setKp (nI s) ((F.now.kp (nI s)).come (nI F.now.time) (nI q))) (c := 0) hr q2 (hr.now.kept hs d2 d3) (fun i hi hp => by rw [t12] at hp ⊢; exact hr.live i (by rw [← t2]; exact hi) hp) (by rw [t1]; omega)
          cases e : (F.now.kp (nI s)).place (nI F.now.time) with
          | none =>
            have n8 : (F.now.kp (nI s)).told < 8 := by
              have : ¬ (F.now.kp (nI s)).told = 8 := fun z => nb2 ⟨z, e⟩
              omega
            obtain ⟨D', d1, d2, d3⟩ := addKeeper_r (x := mP x (a + 614) R1) (p := a + 614 + 2) hs rk1 n8 e ⟨F.now.time, by omega, rfl⟩ lq
            have d1' := row_of (f := fun x p => f_X8_addKeeper x p (nI s) (nI F.now.time) (nI q)) d1
            rw [r1] at d3
            refine ⟨R1.s_rows (updR R1.rows 0 D'), pre _ _ ?_, by rw [← hR1]; rfl, done D' d2 d3⟩
            rw [e]
            simp only [f_X8_relieve_b96, mI, cond_true, fails_0 (R := R.s_th 0) rfl, Option.bind_some, if_true, q1, kO, oI_none, mG_data]
            rw [d1']
            rfl
          | some i =>
            have hi := fnd_some (show fnd (fun i => (F.now.kp (nI s)).ticks i = nI F.now.time) (F.now.kp (nI s)).told 0 = some i from e)
            have ni : ¬ nI i = -1 := nI_neN (by omega)
            have ov := rk1.over e lq
            have ei : nI (42 + 17 * s) + 1 + 2 * nI i + 1 = nI (42 + 17 * s + (2 + 2 * i)) := idx2 _ _
            have d1 : g_ast (mP x (a + 614) R1) (a + 614 + 2) (nI (42 + 17 * s + (2 + 2 * i))) (nI q) = some (mP x (a + 614) (R1.s_rows (updR R1.rows 0 (upd (R1.rows 0) (42 + 17 * s + (2 + 2 * i)) (nI q))))) := row_of (f := fun x p => g_ast x p (nI (42 + 17 * s + (2 + 2 * i))) (nI q)) (rS (show 42 + 17 * s + (2 + 2 * i) < 928 by omega) (nI q))
            refine ⟨R1.s_rows (updR R1.rows 0 (upd (R1.rows 0) (42 + 17 * s + (2 + 2 * i)) (nI q))), pre _ _ ?_, by rw [← hR1]; rfl, done _ ov (fun j hj => by rw [upd_ne (by omega), r1])⟩
            rw [e]
            simp only [f_X8_relieve_b96, mI, cond_true, fails_0 (R := R.s_th 0) rfl, Option.bind_some, if_true, q1, kO, oI_some, ni, if_false, mG_data, ei, d1]
    · refine S_ex (R' := R.s_th 2) (c := 2) (r := 0) hf hm hq ?_ (by decide) (fun x => ?_) rfl (hr.later (by omega))
      · simp only [f_L_relieve, g7, cond_true, f_X7_relieve, f7, c, c2, and_self, not_true_eq_false, not_false_eq_true, if_true, if_false]
      · simp only [f_X8_relieve, f_X8_relieve_b29, mT_th, Option.bind_some, mI, cond_true, noStation_m (R := R.s_th 0) rfl, c, and_self, if_true, f8, c2, not_false_eq_true, fails_1 (R := R.s_th 0) rfl (show ¬ (2 : Int32) = 0 by decide), z10, if_false]
        rfl
  · refine S_ex (R' := R.s_th 1) (c := 1) (r := 0) hf hm hq ?_ (by decide) (fun x => ?_) rfl (hr.later (by omega))
    · simp only [f_L_relieve, g7, cond_true, f_X7_relieve, f7, c, not_false_eq_true, if_true]
    · simp only [f_X8_relieve, f_X8_relieve_b29, mT_th, Option.bind_some, mI, cond_true, noStation_m (R := R.s_th 0) rfl, c, if_false, z10]
      rfl
end CHG2
